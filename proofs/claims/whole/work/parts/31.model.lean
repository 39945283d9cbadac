theorem in_X9_laysGrundies_X9 : ∀ w ∈ u_ws RX9 TX9 16, w ∈ wsX9_laysGrundies := by decide +kernel
theorem lk_X9_laysGrundies_f35 : Cond.fieldLink RX9 35 "PoisonPilesModel" "grundies" "[I" ∈ wsX9_laysGrundies := by decide +kernel
def fX9_laysGrundies_56  (k2 : Int32 → XM → Option XM) : Nat → Int32 → Int32 → Int32 → XM → Option XM
  | 0, _, _, _, _ => none
  | n + 1, x1, x2, x3, X => if ((o_shr x2 x3) &&& 1) = 1 then fX9_laysGrundies_56 k2 n x1 x2 (x3 + 1) X else zd x1 201 (zl (xup X 31 (Int32.toNatClampNeg x1) x3) (fun X_3 => k2 (x1 + 1) X_3))
set_option maxHeartbeats 4000000 in
set_option maxRecDepth 100000 in
theorem wX9_laysGrundies_56 {p : Program} {l : Launch} {e : Env} {s : State} {m : MethodId} {args : Array Value} {below : List Frame} {meth : Method} {c : Code} {D : va_G} {L : Nat → Nat} {ac : Nat → ClassId} {X0 : XM} (hL : LL L) (F : Fx p s m args meth c cX9_laysGrundies 4 none wsX9_laysGrundies yX9_laysGrundies.cls D ac) (k2 : Int32 → XM → Option XM) (hk2 : ∀ (x1 : Int32) (X : XM) (H : Heap) (locs : List Loc) (ls : Array Slot), Oh D L ac X (fr L) s.heap H locs → lv_has ls 4 [(0, .ref (L 15)), (1, .int x1)] → k2 x1 X = some X0 → W p l e (headSpec wsX9_laysGrundies ({ frames := 2, cells := 0, slots := 0, locals := 43 })).room s m args below meth c H locs 0 0 (MQ below (va_Qv (fun (Y : XM) => Y = X0) (fun (Y : XM) t => St D L ac Y t) (fr L)) args s 0 0 (fr L)) (F0 m 2 ls [])) : ∀ (n : Nat) (x1 : Int32) (x2 : Int32) (x3 : Int32) (X : XM) (H : Heap) (locs : List Loc) (ls : Array Slot), Oh D L ac X (fr L) s.heap H locs → lv_has ls 4 [(0, .ref (L 15)), (1, .int x1), (2, .int x2), (3, .int x3)] → fX9_laysGrundies_56 k2 n x1 x2 x3 X = some X0 → W p l e (headSpec wsX9_laysGrundies ({ frames := 2, cells := 0, slots := 0, locals := 43 })).room s m args below meth c H locs 0 0 (MQ below (va_Qv (fun (Y : XM) => Y = X0) (fun (Y : XM) t => St D L ac Y t) (fr L)) args s 0 0 (fr L)) (F0 m 56 ls []) := by
  obtain ⟨hx, hb, hr, hts, hown, hlocks, hml, hK, hN⟩ := id F
  have hA : ∀ q, fr L q → fr L q := fun q h => h
  intro n
  induction n with
  | zero => intro x1 x2 x3 X H locs ls hO hl hf; simp [fX9_laysGrundies_56] at hf
  | succ n ih =>
    intro x1 x2 x3 X H locs ls hO hl hf
    rw [fX9_laysGrundies_56] at hf
    refine lv_iload_n hx hb dX9_laysGrundies_56 rfl (lv_at hl 2 rfl) ?_
    refine lv_iload_n hx hb dX9_laysGrundies_57 rfl (lv_at hl 3 rfl) ?_
    refine lv_ishr hx hb dX9_laysGrundies_58 ?_
    refine lv_iconst (v := 1) hx hb dX9_laysGrundies_59 (by decide) ?_
    refine lv_iand hx hb dX9_laysGrundies_60 ?_
    refine lv_iconst (v := 1) hx hb dX9_laysGrundies_61 (by decide) ?_
    refine lv_icmp_ne (tgt := 71) hx hb dX9_laysGrundies_62 (by decide) (fun c_1 => ?_) (fun c_1 => ?_)
    · rw [if_neg c_1] at hf
      refine lv_aload_n hx hb dX9_laysGrundies_71 rfl (lv_at hl 0 rfl) ?_
      refine k_get (k := 11) (v := .ref (L 24)) hx hb hts in_X9_laysGrundies_X9 hown hK hO (by decide) rfl rfl (by decide) lk_X9_laysGrundies_f35 rfl dX9_laysGrundies_72 ?_
      refine lv_iload_n hx hb dX9_laysGrundies_75 rfl (lv_at hl 1 rfl) ?_
      refine lv_iload_n hx hb dX9_laysGrundies_76 rfl (lv_at hl 3 rfl) ?_
      replace hf := zd_some hf
      obtain ⟨hi_2, hf⟩ := hf
      refine k_iast hx hb hK hL hA hO (by decide) (by decide) rfl (fun _ => rfl) hi_2 dX9_laysGrundies_77 (fun H_4 locs_4 hO_4 => ?_)
      replace hf := zl_some hf
      obtain ⟨X_3, hX_3, hf⟩ := hf
      have hQ_4 := zo_eq hX_3 hO_4
      clear hO_4 hO
      refine lv_iinc (v := x1 + 1) (lv' := [(1, .int (x1 + 1)), (0, .ref (L 15)), (2, .int x2), (3, .int x3)]) hx hb dX9_laysGrundies_78 hl (k := 1) rfl rfl (by decide) rfl (fun ls_5 hl_5 => ?_)
      clear hl
      refine lv_goto (tgt := 2) hx hb dX9_laysGrundies_81 (by decide) ?_
      exact hk2 _ _  _ _ _ hQ_4 (lv_sub hl_5 [1, 0] rfl) hf
    · rw [if_pos c_1] at hf
      refine lv_iinc (v := x3 + 1) (lv' := [(3, .int (x3 + 1)), (0, .ref (L 15)), (1, .int x1), (2, .int x2)]) hx hb dX9_laysGrundies_65 hl (k := 3) rfl rfl (by decide) rfl (fun ls_6 hl_6 => ?_)
      clear hl
      refine lv_goto (tgt := 56) hx hb dX9_laysGrundies_68 (by decide) ?_
      exact ih _ _ _ _  _ _ _ hO (lv_sub hl_6 [1, 2, 3, 0] rfl) hf
def fX9_laysGrundies_13  (k2 : Int32 → XM → Option XM) : Nat → Int32 → Int32 → Int32 → XM → Option XM
  | 0, _, _, _, _ => none
  | n + 1, x1, x2, x3, X => if 5 < x3 then fX9_laysGrundies_56 k2 fuel x1 x2 0 X else zi (fX9_isAllowed x3 X) (fun r_10 X_9 => if r_10 = 0 then zl (x2 ||| 0) (fun v_13 => fX9_laysGrundies_13 k2 n x1 v_13 (x3 + 1) X_9) else if x1 < x3 then zl (x2 ||| 0) (fun v_17 => fX9_laysGrundies_13 k2 n x1 v_17 (x3 + 1) X_9) else zd (x1 - x3) 201 (zl (x2 ||| (o_shl 1 (X_9 31 (Int32.toNatClampNeg (x1 - x3))))) (fun v_21 => fX9_laysGrundies_13 k2 n x1 v_21 (x3 + 1) X_9)))
set_option maxHeartbeats 4000000 in
set_option maxRecDepth 100000 in
theorem wX9_laysGrundies_13 {p : Program} {l : Launch} {e : Env} {s : State} {m : MethodId} {args : Array Value} {below : List Frame} {meth : Method} {c : Code} {D : va_G} {L : Nat → Nat} {ac : Nat → ClassId} {X0 : XM} (hL : LL L) (F : Fx p s m args meth c cX9_laysGrundies 4 none wsX9_laysGrundies yX9_laysGrundies.cls D ac) (k2 : Int32 → XM → Option XM) (hk2 : ∀ (x1 : Int32) (X : XM) (H : Heap) (locs : List Loc) (ls : Array Slot), Oh D L ac X (fr L) s.heap H locs → lv_has ls 4 [(0, .ref (L 15)), (1, .int x1)] → k2 x1 X = some X0 → W p l e (headSpec wsX9_laysGrundies ({ frames := 2, cells := 0, slots := 0, locals := 43 })).room s m args below meth c H locs 0 0 (MQ below (va_Qv (fun (Y : XM) => Y = X0) (fun (Y : XM) t => St D L ac Y t) (fr L)) args s 0 0 (fr L)) (F0 m 2 ls [])) : ∀ (n : Nat) (x1 : Int32) (x2 : Int32) (x3 : Int32) (X : XM) (H : Heap) (locs : List Loc) (ls : Array Slot), Oh D L ac X (fr L) s.heap H locs → lv_has ls 4 [(0, .ref (L 15)), (1, .int x1), (2, .int x2), (3, .int x3)] → fX9_laysGrundies_13 k2 n x1 x2 x3 X = some X0 → W p l e (headSpec wsX9_laysGrundies ({ frames := 2, cells := 0, slots := 0, locals := 43 })).room s m args below meth c H locs 0 0 (MQ below (va_Qv (fun (Y : XM) => Y = X0) (fun (Y : XM) t => St D L ac Y t) (fr L)) args s 0 0 (fr L)) (F0 m 13 ls []) := by
  obtain ⟨hx, hb, hr, hts, hown, hlocks, hml, hK, hN⟩ := id F
  have hA : ∀ q, fr L q → fr L q := fun q h => h
  intro n
  induction n with
  | zero => intro x1 x2 x3 X H locs ls hO hl hf; simp [fX9_laysGrundies_13] at hf
  | succ n ih =>
    intro x1 x2 x3 X H locs ls hO hl hf
    rw [fX9_laysGrundies_13] at hf
    refine lv_iload_n hx hb dX9_laysGrundies_13 rfl (lv_at hl 3 rfl) ?_
    refine lv_iconst (v := 5) hx hb dX9_laysGrundies_14 (by decide) ?_
    refine lv_icmp_gt (tgt := 54) hx hb dX9_laysGrundies_15 (by decide) (fun c_7 => ?_) (fun c_7 => ?_)
    · rw [if_pos c_7] at hf
      refine lv_iconst (v := 0) hx hb dX9_laysGrundies_54 (by decide) ?_
      refine lv_istore_n (lv' := [(3, .int 0), (0, .ref (L 15)), (1, .int x1), (2, .int x2)]) hx hb dX9_laysGrundies_55 rfl hl (by decide) rfl (fun ls_8 hl_8 => ?_)
      clear hl
      exact wX9_laysGrundies_56 hL F _ hk2 fuel _ _ _ _  _ _ _ hO (lv_sub hl_8 [1, 2, 3, 0] rfl) hf
    · rw [if_neg c_7] at hf
      refine lv_iload_n hx hb dX9_laysGrundies_18 rfl (lv_at hl 2 rfl) ?_
      refine lv_aload_n hx hb dX9_laysGrundies_19 rfl (lv_at hl 0 rfl) ?_
      refine lv_iload_n hx hb dX9_laysGrundies_20 rfl (lv_at hl 3 rfl) ?_
      replace hf := zi_some hf
      obtain ⟨r_10, X_9, hc_9, hf⟩ := hf
      refine k_ai (va_runV (As := [.int x3]) (rest := [.int x2]) ⟨hx, hb, hml, hown, hts⟩ (mX9_isAllowed l D L ac hL _ x3 _ _ hc_9) (cwV 1 hts gX9_laysGrundies_X9_isAllowed rfl rfl rfl (by decide +kernel) ⟨Nat.le_of_ble_eq_true rfl, Nat.le_of_ble_eq_true rfl⟩) (k_pv (j := 15) hK hN hO (by decide) rfl rfl _) rfl rfl hl.1 rfl (lv_room (Nat.le_of_ble_eq_true rfl)) dX9_laysGrundies_21 ⟨Nat.le_of_ble_eq_true rfl, Nat.le_of_ble_eq_true rfl⟩) hA hO (fun H_11 locs_11 hO_11 => ?_)
      clear hO
      refine lv_if_eq (tgt := 45) hx hb dX9_laysGrundies_24 (by decide) (fun c_12 => ?_) (fun c_12 => ?_)
      · rw [if_pos c_12] at hf
        subst c_12
        refine lv_iconst (v := 0) hx hb dX9_laysGrundies_45 (by decide) ?_
        refine lv_ior hx hb dX9_laysGrundies_46 ?_
        replace hf := zl_some hf
        obtain ⟨v_13, hv_13, hf⟩ := hf
        refine lv_tope hv_13 ?_
        refine lv_istore_n (lv' := [(2, .int v_13), (0, .ref (L 15)), (1, .int x1), (3, .int x3)]) hx hb dX9_laysGrundies_47 rfl hl (by decide) rfl (fun ls_14 hl_14 => ?_)
        clear hl
        refine lv_iinc (v := x3 + 1) (lv' := [(3, .int (x3 + 1)), (2, .int v_13), (0, .ref (L 15)), (1, .int x1)]) hx hb dX9_laysGrundies_48 hl_14 (k := 3) rfl rfl (by decide) rfl (fun ls_15 hl_15 => ?_)
        clear hl_14
        refine lv_goto (tgt := 13) hx hb dX9_laysGrundies_51 (by decide) ?_
        exact ih _ _ _ _  _ _ _ hO_11 (lv_sub hl_15 [2, 3, 1, 0] rfl) hf
      · rw [if_neg c_12] at hf
        refine lv_iload_n hx hb dX9_laysGrundies_27 rfl (lv_at hl 3 rfl) ?_
        refine lv_iload_n hx hb dX9_laysGrundies_28 rfl (lv_at hl 1 rfl) ?_
        refine lv_icmp_gt (tgt := 45) hx hb dX9_laysGrundies_29 (by decide) (fun c_16 => ?_) (fun c_16 => ?_)
        · rw [if_pos c_16] at hf
          refine lv_iconst (v := 0) hx hb dX9_laysGrundies_45 (by decide) ?_
          refine lv_ior hx hb dX9_laysGrundies_46 ?_
          replace hf := zl_some hf
          obtain ⟨v_17, hv_17, hf⟩ := hf
          refine lv_tope hv_17 ?_
          refine lv_istore_n (lv' := [(2, .int v_17), (0, .ref (L 15)), (1, .int x1), (3, .int x3)]) hx hb dX9_laysGrundies_47 rfl hl (by decide) rfl (fun ls_18 hl_18 => ?_)
          clear hl
          refine lv_iinc (v := x3 + 1) (lv' := [(3, .int (x3 + 1)), (2, .int v_17), (0, .ref (L 15)), (1, .int x1)]) hx hb dX9_laysGrundies_48 hl_18 (k := 3) rfl rfl (by decide) rfl (fun ls_19 hl_19 => ?_)
          clear hl_18
          refine lv_goto (tgt := 13) hx hb dX9_laysGrundies_51 (by decide) ?_
          exact ih _ _ _ _  _ _ _ hO_11 (lv_sub hl_19 [2, 3, 1, 0] rfl) hf
        · rw [if_neg c_16] at hf
          refine lv_iconst (v := 1) hx hb dX9_laysGrundies_32 (by decide) ?_
          refine lv_aload_n hx hb dX9_laysGrundies_33 rfl (lv_at hl 0 rfl) ?_
          refine k_get (k := 11) (v := .ref (L 24)) hx hb hts in_X9_laysGrundies_X9 hown hK hO_11 (by decide) rfl rfl (by decide) lk_X9_laysGrundies_f35 rfl dX9_laysGrundies_34 ?_
          refine lv_iload_n hx hb dX9_laysGrundies_37 rfl (lv_at hl 1 rfl) ?_
          refine lv_iload_n hx hb dX9_laysGrundies_38 rfl (lv_at hl 3 rfl) ?_
          refine lv_isub hx hb dX9_laysGrundies_39 ?_
          replace hf := zd_some hf
          obtain ⟨hi_20, hf⟩ := hf
          refine k_iald hx hb hK hO_11 (by decide) (fun _ => rfl) hi_20 dX9_laysGrundies_40 ?_
          refine lv_ishl hx hb dX9_laysGrundies_41 ?_
          refine lv_goto (tgt := 46) hx hb dX9_laysGrundies_42 (by decide) ?_
          refine lv_ior hx hb dX9_laysGrundies_46 ?_
          replace hf := zl_some hf
          obtain ⟨v_21, hv_21, hf⟩ := hf
          refine lv_tope hv_21 ?_
          refine lv_istore_n (lv' := [(2, .int v_21), (0, .ref (L 15)), (1, .int x1), (3, .int x3)]) hx hb dX9_laysGrundies_47 rfl hl (by decide) rfl (fun ls_22 hl_22 => ?_)
          clear hl
          refine lv_iinc (v := x3 + 1) (lv' := [(3, .int (x3 + 1)), (2, .int v_21), (0, .ref (L 15)), (1, .int x1)]) hx hb dX9_laysGrundies_48 hl_22 (k := 3) rfl rfl (by decide) rfl (fun ls_23 hl_23 => ?_)
          clear hl_22
          refine lv_goto (tgt := 13) hx hb dX9_laysGrundies_51 (by decide) ?_
          exact ih _ _ _ _  _ _ _ hO_11 (lv_sub hl_23 [2, 3, 1, 0] rfl) hf
def fX9_laysGrundies_2   : Nat → Int32 → XM → Option XM
  | 0, _, _ => none
  | n + 1, x1, X => if 200 < x1 then some X else fX9_laysGrundies_13 (fX9_laysGrundies_2 n) fuel x1 0 1 X
set_option maxHeartbeats 4000000 in
set_option maxRecDepth 100000 in
theorem wX9_laysGrundies_2 {p : Program} {l : Launch} {e : Env} {s : State} {m : MethodId} {args : Array Value} {below : List Frame} {meth : Method} {c : Code} {D : va_G} {L : Nat → Nat} {ac : Nat → ClassId} {X0 : XM} (hL : LL L) (F : Fx p s m args meth c cX9_laysGrundies 4 none wsX9_laysGrundies yX9_laysGrundies.cls D ac) : ∀ (n : Nat) (x1 : Int32) (X : XM) (H : Heap) (locs : List Loc) (ls : Array Slot), Oh D L ac X (fr L) s.heap H locs → lv_has ls 4 [(0, .ref (L 15)), (1, .int x1)] → fX9_laysGrundies_2 n x1 X = some X0 → W p l e (headSpec wsX9_laysGrundies ({ frames := 2, cells := 0, slots := 0, locals := 43 })).room s m args below meth c H locs 0 0 (MQ below (va_Qv (fun (Y : XM) => Y = X0) (fun (Y : XM) t => St D L ac Y t) (fr L)) args s 0 0 (fr L)) (F0 m 2 ls []) := by
  obtain ⟨hx, hb, hr, hts, hown, hlocks, hml, hK, hN⟩ := id F
  have hA : ∀ q, fr L q → fr L q := fun q h => h
  intro n
  induction n with
  | zero => intro x1 X H locs ls hO hl hf; simp [fX9_laysGrundies_2] at hf
  | succ n ih =>
    intro x1 X H locs ls hO hl hf
    rw [fX9_laysGrundies_2] at hf
    refine lv_iload_n hx hb dX9_laysGrundies_2 rfl (lv_at hl 1 rfl) ?_
    refine lv_sipush (v := 200) hx hb dX9_laysGrundies_3 (by decide) ?_
    refine lv_icmp_gt (tgt := 84) hx hb dX9_laysGrundies_6 (by decide) (fun c_24 => ?_) (fun c_24 => ?_)
    · rw [if_pos c_24] at hf
      obtain rfl := Option.some.inj hf
      exact e_v hx hb hr hK hN hO hlocks dX9_laysGrundies_84
    · rw [if_neg c_24] at hf
      refine lv_iconst (v := 0) hx hb dX9_laysGrundies_9 (by decide) ?_
      refine lv_istore_n (lv' := [(2, .int 0), (0, .ref (L 15)), (1, .int x1)]) hx hb dX9_laysGrundies_10 rfl hl (by decide) rfl (fun ls_25 hl_25 => ?_)
      clear hl
      refine lv_iconst (v := 1) hx hb dX9_laysGrundies_11 (by decide) ?_
      refine lv_istore_n (lv' := [(3, .int 1), (2, .int 0), (0, .ref (L 15)), (1, .int x1)]) hx hb dX9_laysGrundies_12 rfl hl_25 (by decide) rfl (fun ls_26 hl_26 => ?_)
      clear hl_25
      exact wX9_laysGrundies_13 hL F _ ih fuel _ _ _ _  _ _ _ hO (lv_sub hl_26 [2, 3, 1, 0] rfl) hf
def fX9_laysGrundies   (X : XM) : Option XM := fX9_laysGrundies_2 fuel 0 X
set_option maxHeartbeats 4000000 in
set_option maxRecDepth 100000 in
theorem mX9_laysGrundies (l : Launch) (D : va_G) (L : Nat → Nat) (ac : Nat → ClassId) (hL : LL L) (X : XM)  (X0 : XM) (hf : fX9_laysGrundies  X = some X0) : Cv l yX9_laysGrundies wsX9_laysGrundies ({ frames := 2, cells := 0, slots := 0, locals := 43 }) D L ac X [.ref (L 15)] X0 := by
  refine Met.ofK (cc := cX9_laysGrundies) (maxL := 4) (ret := none) (lv := [(0, .ref (L 15))]) (by decide +kernel) rfl (Nat.le_of_ble_eq_true rfl) rfl ?_
  intro p e s m below meth c F hO ls hl
  obtain ⟨hx, hb, hr, hts, hown, hlocks, hml, hK, hN⟩ := id F
  have hA : ∀ q, fr L q → fr L q := fun q h => h
  unfold fX9_laysGrundies at hf
  refine lv_iconst (v := 0) hx hb dX9_laysGrundies_0 (by decide) ?_
  refine lv_istore_n (lv' := [(1, .int 0), (0, .ref (L 15))]) hx hb dX9_laysGrundies_1 rfl hl (by decide) rfl (fun ls_27 hl_27 => ?_)
  clear hl
  exact wX9_laysGrundies_2 hL F  fuel _ _  _ _ _ hO (lv_sub hl_27 [1, 0] rfl) hf
theorem in_X9_grundyOf_X9 : ∀ w ∈ u_ws RX9 TX9 16, w ∈ wsX9_grundyOf := by decide +kernel
theorem lk_X9_grundyOf_f35 : Cond.fieldLink RX9 35 "PoisonPilesModel" "grundies" "[I" ∈ wsX9_grundyOf := by decide +kernel
def fX9_grundyOf  (a1 : Int32) (X : XM) : Option (Int32 × XM) := zv (fX9_laysGrundies X) (fun X_1 => zd a1 201 (some (X_1 31 (Int32.toNatClampNeg a1), X_1)))
set_option maxHeartbeats 4000000 in
set_option maxRecDepth 100000 in
theorem mX9_grundyOf (l : Launch) (D : va_G) (L : Nat → Nat) (ac : Nat → ClassId) (hL : LL L) (X : XM) (a1 : Int32) (r0 : Int32) (X0 : XM) (hf : fX9_grundyOf a1 X = some (r0, X0)) : Ci l yX9_grundyOf wsX9_grundyOf ({ frames := 3, cells := 0, slots := 0, locals := 66 }) D L ac X [.ref (L 15), .int a1] r0 X0 := by
  refine Met.ofK (cc := cX9_grundyOf) (maxL := 2) (ret := (some .int)) (lv := [(0, .ref (L 15)), (1, .int a1)]) (by decide +kernel) rfl (Nat.le_of_ble_eq_true rfl) rfl ?_
  intro p e s m below meth c F hO ls hl
  obtain ⟨hx, hb, hr, hts, hown, hlocks, hml, hK, hN⟩ := id F
  have hA : ∀ q, fr L q → fr L q := fun q h => h
  unfold fX9_grundyOf at hf
  refine lv_aload_n hx hb dX9_grundyOf_0 rfl (lv_at hl 0 rfl) ?_
  replace hf := zv_some hf
  obtain ⟨X_1, hc_1, hf⟩ := hf
  refine k_av (va_runV (As := []) (rest := []) ⟨hx, hb, hml, hown, hts⟩ (mX9_laysGrundies l D L ac hL _  _ hc_1) (cwV 0 hts gX9_grundyOf_X9_laysGrundies rfl rfl rfl (by decide +kernel) ⟨Nat.le_of_ble_eq_true rfl, Nat.le_of_ble_eq_true rfl⟩) (k_pv (j := 15) hK hN hO (by decide) rfl rfl _) rfl rfl hl.1 rfl (lv_room (Nat.le_of_ble_eq_true rfl)) dX9_grundyOf_1 ⟨Nat.le_of_ble_eq_true rfl, Nat.le_of_ble_eq_true rfl⟩) hA hO (fun H_2 locs_2 hO_2 => ?_)
  clear hO
  refine lv_aload_n hx hb dX9_grundyOf_4 rfl (lv_at hl 0 rfl) ?_
  refine k_get (k := 11) (v := .ref (L 24)) hx hb hts in_X9_grundyOf_X9 hown hK hO_2 (by decide) rfl rfl (by decide) lk_X9_grundyOf_f35 rfl dX9_grundyOf_5 ?_
  refine lv_iload_n hx hb dX9_grundyOf_8 rfl (lv_at hl 1 rfl) ?_
  replace hf := zd_some hf
  obtain ⟨hi_3, hf⟩ := hf
  refine k_iald hx hb hK hO_2 (by decide) (fun _ => rfl) hi_3 dX9_grundyOf_9 ?_
  obtain ⟨rfl, rfl⟩ := Prod.mk.inj (Option.some.inj hf)
  exact e_i hx hb hr hK hN hO_2 hlocks dX9_grundyOf_10
theorem in_X9_ofPile_X9 : ∀ w ∈ u_ws RX9 TX9 16, w ∈ wsX9_ofPile := by decide +kernel
theorem lk_X9_ofPile_f41 : Cond.fieldLink RX9 41 "PoisonPilesModel" "thrown" "I" ∈ wsX9_ofPile := by decide +kernel
def fX9_ofPile  (a1 : Int32) (a2 : Int32) (X : XM) : Option (Int32 × XM) := zl (xup X 22 0 0) (fun X_1 => zi (fX9_isPile a1 X_1) (fun r_4 X_3 => if r_4 = 0 then some ((-1), X_3) else if a2 = 4 then zi (fX9_of a1 0 X_3) (fun r_16 X_15 => zi (fX9_grundyOf r_16 X_15) (fun r_19 X_18 => some (r_19, X_18))) else zi (fX9_in a2 0 3 X_3) (fun r_9 X_8 => if r_9 = 0 then some ((-2), X_8) else zi (fX9_of a1 a2 X_8) (fun r_13 X_12 => some (r_13, X_12)))))
set_option maxHeartbeats 4000000 in
set_option maxRecDepth 100000 in
theorem mX9_ofPile (l : Launch) (D : va_G) (L : Nat → Nat) (ac : Nat → ClassId) (hL : LL L) (X : XM) (a1 : Int32) (a2 : Int32) (r0 : Int32) (X0 : XM) (hf : fX9_ofPile a1 a2 X = some (r0, X0)) : Ci l yX9_ofPile wsX9_ofPile ({ frames := 4, cells := 0, slots := 0, locals := 87 }) D L ac X [.ref (L 15), .int a1, .int a2] r0 X0 := by
  refine Met.ofK (cc := cX9_ofPile) (maxL := 3) (ret := (some .int)) (lv := [(0, .ref (L 15)), (1, .int a1), (2, .int a2)]) (by decide +kernel) rfl (Nat.le_of_ble_eq_true rfl) rfl ?_
  intro p e s m below meth c F hO ls hl
  obtain ⟨hx, hb, hr, hts, hown, hlocks, hml, hK, hN⟩ := id F
  have hA : ∀ q, fr L q → fr L q := fun q h => h
  unfold fX9_ofPile at hf
  refine lv_aload_n hx hb dX9_ofPile_0 rfl (lv_at hl 0 rfl) ?_
  refine lv_iconst (v := 0) hx hb dX9_ofPile_1 (by decide) ?_
  refine k_put (ty := .int) (k := 0) (r := 22) (k' := 0) hx hb tyX9 tyX9_ok nmX9 hts in_X9_ofPile_X9 hown hK  hL hA hO (by decide) rfl (by omega) (fun Y => rfl) (by simp [xup]) rfl (by decide) lk_X9_ofPile_f41 rfl (by decide +kernel) rfl rfl (Nat.le_of_ble_eq_true rfl) dX9_ofPile_2 (fun H_2 locs_2 hO_2 => ?_)
  replace hf := zl_some hf
  obtain ⟨X_1, hX_1, hf⟩ := hf
  have hQ_2 := zo_eq hX_1 hO_2
  clear hO_2 hO
  refine lv_aload_n hx hb dX9_ofPile_5 rfl (lv_at hl 0 rfl) ?_
  refine lv_iload_n hx hb dX9_ofPile_6 rfl (lv_at hl 1 rfl) ?_
  replace hf := zi_some hf
  obtain ⟨r_4, X_3, hc_3, hf⟩ := hf
  refine k_ai (va_runV (As := [.int a1]) (rest := []) ⟨hx, hb, hml, hown, hts⟩ (mX9_isPile l D L ac hL _ a1 _ _ hc_3) (cwV 1 hts gX9_ofPile_X9_isPile rfl rfl rfl (by decide +kernel) ⟨Nat.le_of_ble_eq_true rfl, Nat.le_of_ble_eq_true rfl⟩) (k_pv (j := 15) hK hN hQ_2 (by decide) rfl rfl _) rfl rfl hl.1 rfl (lv_room (Nat.le_of_ble_eq_true rfl)) dX9_ofPile_7 ⟨Nat.le_of_ble_eq_true rfl, Nat.le_of_ble_eq_true rfl⟩) hA hQ_2 (fun H_5 locs_5 hO_5 => ?_)
  clear hQ_2
  refine lv_if_ne (tgt := 15) hx hb dX9_ofPile_10 (by decide) (fun c_6 => ?_) (fun c_6 => ?_)
  · rw [if_neg c_6] at hf
    refine lv_iload_n hx hb dX9_ofPile_15 rfl (lv_at hl 2 rfl) ?_
    refine lv_iconst (v := 4) hx hb dX9_ofPile_16 (by decide) ?_
    refine lv_icmp_ne (tgt := 33) hx hb dX9_ofPile_17 (by decide) (fun c_7 => ?_) (fun c_7 => ?_)
    · rw [if_neg c_7] at hf
      refine lv_iload_n hx hb dX9_ofPile_33 rfl (lv_at hl 2 rfl) ?_
      refine lv_iconst (v := 0) hx hb dX9_ofPile_34 (by decide) ?_
      refine lv_iconst (v := 3) hx hb dX9_ofPile_35 (by decide) ?_
      replace hf := zi_some hf
      obtain ⟨r_9, X_8, hc_8, hf⟩ := hf
      refine k_ai (va_runS (As := [.int a2, .int 0, .int 3]) (rest := []) ⟨hx, hb, hml, hown, hts⟩ (mX9_in l D L ac hL _ a2 0 3 _ _ hc_8) (va_cwS 3 hts gX9_ofPile_X9_in rfl rfl rfl (by decide +kernel) ⟨Nat.le_of_ble_eq_true rfl, Nat.le_of_ble_eq_true rfl⟩) (k_ps hK hN hO_5 _) rfl rfl hl.1 rfl (lv_room (Nat.le_of_ble_eq_true rfl)) dX9_ofPile_36 ⟨Nat.le_of_ble_eq_true rfl, Nat.le_of_ble_eq_true rfl⟩) hA hO_5 (fun H_10 locs_10 hO_10 => ?_)
      clear hO_5
      refine lv_if_eq (tgt := 51) hx hb dX9_ofPile_39 (by decide) (fun c_11 => ?_) (fun c_11 => ?_)
      · rw [if_pos c_11] at hf
        subst c_11
        refine lv_bipush (v := (-2)) hx hb dX9_ofPile_51 (by decide) ?_
        obtain ⟨rfl, rfl⟩ := Prod.mk.inj (Option.some.inj hf)
        exact e_i hx hb hr hK hN hO_10 hlocks dX9_ofPile_53
      · rw [if_neg c_11] at hf
        refine lv_aload_n hx hb dX9_ofPile_42 rfl (lv_at hl 0 rfl) ?_
        refine lv_iload_n hx hb dX9_ofPile_43 rfl (lv_at hl 1 rfl) ?_
        refine lv_iload_n hx hb dX9_ofPile_44 rfl (lv_at hl 2 rfl) ?_
        replace hf := zi_some hf
        obtain ⟨r_13, X_12, hc_12, hf⟩ := hf
        refine k_ai (va_runV (As := [.int a1, .int a2]) (rest := []) ⟨hx, hb, hml, hown, hts⟩ (mX9_of l D L ac hL _ a1 a2 _ _ hc_12) (cwV 2 hts gX9_ofPile_X9_of rfl rfl rfl (by decide +kernel) ⟨Nat.le_of_ble_eq_true rfl, Nat.le_of_ble_eq_true rfl⟩) (k_pv (j := 15) hK hN hO_10 (by decide) rfl rfl _) rfl rfl hl.1 rfl (lv_room (Nat.le_of_ble_eq_true rfl)) dX9_ofPile_45 ⟨Nat.le_of_ble_eq_true rfl, Nat.le_of_ble_eq_true rfl⟩) hA hO_10 (fun H_14 locs_14 hO_14 => ?_)
        clear hO_10
        refine lv_goto (tgt := 53) hx hb dX9_ofPile_48 (by decide) ?_
        obtain ⟨rfl, rfl⟩ := Prod.mk.inj (Option.some.inj hf)
        exact e_i hx hb hr hK hN hO_14 hlocks dX9_ofPile_53
    · rw [if_pos c_7] at hf
      subst c_7
      refine lv_aload_n hx hb dX9_ofPile_20 rfl (lv_at hl 0 rfl) ?_
      refine lv_aload_n hx hb dX9_ofPile_21 rfl (lv_at hl 0 rfl) ?_
      refine lv_iload_n hx hb dX9_ofPile_22 rfl (lv_at hl 1 rfl) ?_
      refine lv_iconst (v := 0) hx hb dX9_ofPile_23 (by decide) ?_
      replace hf := zi_some hf
      obtain ⟨r_16, X_15, hc_15, hf⟩ := hf
      refine k_ai (va_runV (As := [.int a1, .int 0]) (rest := [.ref (L 15)]) ⟨hx, hb, hml, hown, hts⟩ (mX9_of l D L ac hL _ a1 0 _ _ hc_15) (cwV 2 hts gX9_ofPile_X9_of rfl rfl rfl (by decide +kernel) ⟨Nat.le_of_ble_eq_true rfl, Nat.le_of_ble_eq_true rfl⟩) (k_pv (j := 15) hK hN hO_5 (by decide) rfl rfl _) rfl rfl hl.1 rfl (lv_room (Nat.le_of_ble_eq_true rfl)) dX9_ofPile_24 ⟨Nat.le_of_ble_eq_true rfl, Nat.le_of_ble_eq_true rfl⟩) hA hO_5 (fun H_17 locs_17 hO_17 => ?_)
      clear hO_5
      replace hf := zi_some hf
      obtain ⟨r_19, X_18, hc_18, hf⟩ := hf
      refine k_ai (va_runV (As := [.int r_16]) (rest := []) ⟨hx, hb, hml, hown, hts⟩ (mX9_grundyOf l D L ac hL _ r_16 _ _ hc_18) (cwV 1 hts gX9_ofPile_X9_grundyOf rfl rfl rfl (by decide +kernel) ⟨Nat.le_of_ble_eq_true rfl, Nat.le_of_ble_eq_true rfl⟩) (k_pv (j := 15) hK hN hO_17 (by decide) rfl rfl _) rfl rfl hl.1 rfl (lv_room (Nat.le_of_ble_eq_true rfl)) dX9_ofPile_27 ⟨Nat.le_of_ble_eq_true rfl, Nat.le_of_ble_eq_true rfl⟩) hA hO_17 (fun H_20 locs_20 hO_20 => ?_)
      clear hO_17
      refine lv_goto (tgt := 53) hx hb dX9_ofPile_30 (by decide) ?_
      obtain ⟨rfl, rfl⟩ := Prod.mk.inj (Option.some.inj hf)
      exact e_i hx hb hr hK hN hO_20 hlocks dX9_ofPile_53
  · rw [if_pos c_6] at hf
    subst c_6
    refine lv_iconst (v := (-1)) hx hb dX9_ofPile_13 (by decide) ?_
    obtain ⟨rfl, rfl⟩ := Prod.mk.inj (Option.some.inj hf)
    exact e_i hx hb hr hK hN hO_5 hlocks dX9_ofPile_14
theorem in_X9_inAll_X9 : ∀ w ∈ u_ws RX9 TX9 16, w ∈ wsX9_inAll := by decide +kernel
theorem lk_X9_inAll_f7 : Cond.fieldLink RX9 7 "PoisonPilesModel" "s" "[I" ∈ wsX9_inAll := by decide +kernel
def fX9_inAll  (a1 : Int32) (X : XM) : Option (Int32 × XM) := zi (fX9_winner X) (fun r_2 X_1 => zd (9 + a1) 27 (if r_2 = (-6) then some ((X_1 23 (Int32.toNatClampNeg (9 + a1))) + 0, X_1) else if r_2 = a1 then some ((X_1 23 (Int32.toNatClampNeg (9 + a1))) + (X_1 23 1), X_1) else some ((X_1 23 (Int32.toNatClampNeg (9 + a1))) + (-(X_1 23 1)), X_1)))
set_option maxHeartbeats 4000000 in
set_option maxRecDepth 100000 in
theorem mX9_inAll (l : Launch) (D : va_G) (L : Nat → Nat) (ac : Nat → ClassId) (hL : LL L) (X : XM) (a1 : Int32) (r0 : Int32) (X0 : XM) (hf : fX9_inAll a1 X = some (r0, X0)) : Ci l yX9_inAll wsX9_inAll ({ frames := 6, cells := 0, slots := 0, locals := 130 }) D L ac X [.ref (L 15), .int a1] r0 X0 := by
  refine Met.ofK (cc := cX9_inAll) (maxL := 3) (ret := (some .int)) (lv := [(0, .ref (L 15)), (1, .int a1)]) (by decide +kernel) rfl (Nat.le_of_ble_eq_true rfl) rfl ?_
  intro p e s m below meth c F hO ls hl
  obtain ⟨hx, hb, hr, hts, hown, hlocks, hml, hK, hN⟩ := id F
  have hA : ∀ q, fr L q → fr L q := fun q h => h
  unfold fX9_inAll at hf
  refine lv_aload_n hx hb dX9_inAll_0 rfl (lv_at hl 0 rfl) ?_
  replace hf := zi_some hf
  obtain ⟨r_2, X_1, hc_1, hf⟩ := hf
  refine k_ai (va_runV (As := []) (rest := []) ⟨hx, hb, hml, hown, hts⟩ (mX9_winner l D L ac hL _  _ _ hc_1) (cwV 0 hts gX9_inAll_X9_winner rfl rfl rfl (by decide +kernel) ⟨Nat.le_of_ble_eq_true rfl, Nat.le_of_ble_eq_true rfl⟩) (k_pv (j := 15) hK hN hO (by decide) rfl rfl _) rfl rfl hl.1 rfl (lv_room (Nat.le_of_ble_eq_true rfl)) dX9_inAll_1 ⟨Nat.le_of_ble_eq_true rfl, Nat.le_of_ble_eq_true rfl⟩) hA hO (fun H_3 locs_3 hO_3 => ?_)
  clear hO
  refine lv_istore_n (lv' := [(2, .int r_2), (0, .ref (L 15)), (1, .int a1)]) hx hb dX9_inAll_4 rfl hl (by decide) rfl (fun ls_4 hl_4 => ?_)
  clear hl
  refine lv_aload_n hx hb dX9_inAll_5 rfl (lv_at hl_4 1 rfl) ?_
  refine k_get (k := 1) (v := .ref (L 16)) hx hb hts in_X9_inAll_X9 hown hK hO_3 (by decide) rfl rfl (by decide) lk_X9_inAll_f7 rfl dX9_inAll_6 ?_
  refine lv_bipush (v := 9) hx hb dX9_inAll_9 (by decide) ?_
  refine lv_iload_n hx hb dX9_inAll_11 rfl (lv_at hl_4 2 rfl) ?_
  refine lv_iadd hx hb dX9_inAll_12 ?_
  replace hf := zd_some hf
  obtain ⟨hi_5, hf⟩ := hf
  refine k_iald hx hb hK hO_3 (by decide) (fun _ => rfl) hi_5 dX9_inAll_13 ?_
  refine lv_iload_n hx hb dX9_inAll_14 rfl (lv_at hl_4 0 rfl) ?_
  refine lv_bipush (v := (-6)) hx hb dX9_inAll_15 (by decide) ?_
  refine lv_icmp_ne (tgt := 24) hx hb dX9_inAll_17 (by decide) (fun c_6 => ?_) (fun c_6 => ?_)
  · rw [if_neg c_6] at hf
    refine lv_iload_n hx hb dX9_inAll_24 rfl (lv_at hl_4 0 rfl) ?_
    refine lv_iload_n hx hb dX9_inAll_25 rfl (lv_at hl_4 2 rfl) ?_
    refine lv_icmp_ne (tgt := 38) hx hb dX9_inAll_26 (by decide) (fun c_7 => ?_) (fun c_7 => ?_)
    · rw [if_neg c_7] at hf
      refine lv_aload_n hx hb dX9_inAll_38 rfl (lv_at hl_4 1 rfl) ?_
      refine k_get (k := 1) (v := .ref (L 16)) hx hb hts in_X9_inAll_X9 hown hK hO_3 (by decide) rfl rfl (by decide) lk_X9_inAll_f7 rfl dX9_inAll_39 ?_
      refine lv_iconst (v := 1) hx hb dX9_inAll_42 (by decide) ?_
      refine k_iald hx hb hK hO_3 (by decide) (fun _ => rfl) (show vp_in 1 27 from by unfold vp_in; decide) dX9_inAll_43 ?_
      refine lv_tope (z := X_1 23 1) rfl ?_
      refine lv_ineg hx hb dX9_inAll_44 ?_
      refine lv_iadd hx hb dX9_inAll_45 ?_
      obtain ⟨rfl, rfl⟩ := Prod.mk.inj (Option.some.inj hf)
      exact e_i hx hb hr hK hN hO_3 hlocks dX9_inAll_46
    · rw [if_pos c_7] at hf
      refine lv_aload_n hx hb dX9_inAll_29 rfl (lv_at hl_4 1 rfl) ?_
      refine k_get (k := 1) (v := .ref (L 16)) hx hb hts in_X9_inAll_X9 hown hK hO_3 (by decide) rfl rfl (by decide) lk_X9_inAll_f7 rfl dX9_inAll_30 ?_
      refine lv_iconst (v := 1) hx hb dX9_inAll_33 (by decide) ?_
      refine k_iald hx hb hK hO_3 (by decide) (fun _ => rfl) (show vp_in 1 27 from by unfold vp_in; decide) dX9_inAll_34 ?_
      refine lv_tope (z := X_1 23 1) rfl ?_
      refine lv_goto (tgt := 45) hx hb dX9_inAll_35 (by decide) ?_
      refine lv_iadd hx hb dX9_inAll_45 ?_
      obtain ⟨rfl, rfl⟩ := Prod.mk.inj (Option.some.inj hf)
      exact e_i hx hb hr hK hN hO_3 hlocks dX9_inAll_46
  · rw [if_pos c_6] at hf
    subst c_6
    refine lv_iconst (v := 0) hx hb dX9_inAll_20 (by decide) ?_
    refine lv_goto (tgt := 45) hx hb dX9_inAll_21 (by decide) ?_
    refine lv_iadd hx hb dX9_inAll_45 ?_
    obtain ⟨rfl, rfl⟩ := Prod.mk.inj (Option.some.inj hf)
    exact e_i hx hb hr hK hN hO_3 hlocks dX9_inAll_46
theorem in_X9_ofPlayer_X9 : ∀ w ∈ u_ws RX9 TX9 16, w ∈ wsX9_ofPlayer := by decide +kernel
theorem lk_X9_ofPlayer_f41 : Cond.fieldLink RX9 41 "PoisonPilesModel" "thrown" "I" ∈ wsX9_ofPlayer := by decide +kernel
theorem lk_X9_ofPlayer_f7 : Cond.fieldLink RX9 7 "PoisonPilesModel" "s" "[I" ∈ wsX9_ofPlayer := by decide +kernel
def fX9_ofPlayer  (a1 : Int32) (a2 : Int32) (X : XM) : Option (Int32 × XM) := zl (xup X 22 0 0) (fun X_1 => zi (fX9_in a1 0 1 X_1) (fun r_4 X_3 => if r_4 = 0 then some ((-1), X_3) else if a2 = 0 then zd (9 + a1) 27 (some (X_3 23 (Int32.toNatClampNeg (9 + a1)), X_3)) else (if a2 = 1 then zd (7 + a1) 27 (some (X_3 23 (Int32.toNatClampNeg (7 + a1)), X_3)) else (if a2 = 2 then zi (fX9_inAll a1 X_3) (fun r_13 X_12 => some (r_13 + 100, X_12)) else (some ((-2), X_3))))))
set_option maxHeartbeats 4000000 in
set_option maxRecDepth 100000 in
theorem mX9_ofPlayer (l : Launch) (D : va_G) (L : Nat → Nat) (ac : Nat → ClassId) (hL : LL L) (X : XM) (a1 : Int32) (a2 : Int32) (r0 : Int32) (X0 : XM) (hf : fX9_ofPlayer a1 a2 X = some (r0, X0)) : Ci l yX9_ofPlayer wsX9_ofPlayer ({ frames := 7, cells := 0, slots := 0, locals := 152 }) D L ac X [.ref (L 15), .int a1, .int a2] r0 X0 := by
  refine Met.ofK (cc := cX9_ofPlayer) (maxL := 3) (ret := (some .int)) (lv := [(0, .ref (L 15)), (1, .int a1), (2, .int a2)]) (by decide +kernel) rfl (Nat.le_of_ble_eq_true rfl) rfl ?_
  intro p e s m below meth c F hO ls hl
  obtain ⟨hx, hb, hr, hts, hown, hlocks, hml, hK, hN⟩ := id F
  have hA : ∀ q, fr L q → fr L q := fun q h => h
  unfold fX9_ofPlayer at hf
  refine lv_aload_n hx hb dX9_ofPlayer_0 rfl (lv_at hl 0 rfl) ?_
  refine lv_iconst (v := 0) hx hb dX9_ofPlayer_1 (by decide) ?_
  refine k_put (ty := .int) (k := 0) (r := 22) (k' := 0) hx hb tyX9 tyX9_ok nmX9 hts in_X9_ofPlayer_X9 hown hK  hL hA hO (by decide) rfl (by omega) (fun Y => rfl) (by simp [xup]) rfl (by decide) lk_X9_ofPlayer_f41 rfl (by decide +kernel) rfl rfl (Nat.le_of_ble_eq_true rfl) dX9_ofPlayer_2 (fun H_2 locs_2 hO_2 => ?_)
  replace hf := zl_some hf
  obtain ⟨X_1, hX_1, hf⟩ := hf
  have hQ_2 := zo_eq hX_1 hO_2
  clear hO_2 hO
  refine lv_iload_n hx hb dX9_ofPlayer_5 rfl (lv_at hl 1 rfl) ?_
  refine lv_iconst (v := 0) hx hb dX9_ofPlayer_6 (by decide) ?_
  refine lv_iconst (v := 1) hx hb dX9_ofPlayer_7 (by decide) ?_
  replace hf := zi_some hf
  obtain ⟨r_4, X_3, hc_3, hf⟩ := hf
  refine k_ai (va_runS (As := [.int a1, .int 0, .int 1]) (rest := []) ⟨hx, hb, hml, hown, hts⟩ (mX9_in l D L ac hL _ a1 0 1 _ _ hc_3) (va_cwS 3 hts gX9_ofPlayer_X9_in rfl rfl rfl (by decide +kernel) ⟨Nat.le_of_ble_eq_true rfl, Nat.le_of_ble_eq_true rfl⟩) (k_ps hK hN hQ_2 _) rfl rfl hl.1 rfl (lv_room (Nat.le_of_ble_eq_true rfl)) dX9_ofPlayer_8 ⟨Nat.le_of_ble_eq_true rfl, Nat.le_of_ble_eq_true rfl⟩) hA hQ_2 (fun H_5 locs_5 hO_5 => ?_)
  clear hQ_2
  refine lv_if_ne (tgt := 16) hx hb dX9_ofPlayer_11 (by decide) (fun c_6 => ?_) (fun c_6 => ?_)
  · rw [if_neg c_6] at hf
    refine lv_iload_n hx hb dX9_ofPlayer_16 rfl (lv_at hl 2 rfl) ?_
    by_cases c_7 : a2 = 0
    · rw [if_pos c_7] at hf
      refine k_tabIn (tgt := 44) (off := 27) hx hb c_7 dX9_ofPlayer_17 (by decide) (by decide) rfl (by decide) ?_
      subst c_7
      refine lv_aload_n hx hb dX9_ofPlayer_44 rfl (lv_at hl 0 rfl) ?_
      refine k_get (k := 1) (v := .ref (L 16)) hx hb hts in_X9_ofPlayer_X9 hown hK hO_5 (by decide) rfl rfl (by decide) lk_X9_ofPlayer_f7 rfl dX9_ofPlayer_45 ?_
      refine lv_bipush (v := 9) hx hb dX9_ofPlayer_48 (by decide) ?_
      refine lv_iload_n hx hb dX9_ofPlayer_50 rfl (lv_at hl 1 rfl) ?_
      refine lv_iadd hx hb dX9_ofPlayer_51 ?_
      replace hf := zd_some hf
      obtain ⟨hi_8, hf⟩ := hf
      refine k_iald hx hb hK hO_5 (by decide) (fun _ => rfl) hi_8 dX9_ofPlayer_52 ?_
      obtain ⟨rfl, rfl⟩ := Prod.mk.inj (Option.some.inj hf)
      exact e_i hx hb hr hK hN hO_5 hlocks dX9_ofPlayer_53
    · rw [if_neg c_7] at hf
      by_cases c_9 : a2 = 1
      · rw [if_pos c_9] at hf
        refine k_tabIn (tgt := 54) (off := 37) hx hb c_9 dX9_ofPlayer_17 (by decide) (by decide) rfl (by decide) ?_
        subst c_9
        refine lv_aload_n hx hb dX9_ofPlayer_54 rfl (lv_at hl 0 rfl) ?_
        refine k_get (k := 1) (v := .ref (L 16)) hx hb hts in_X9_ofPlayer_X9 hown hK hO_5 (by decide) rfl rfl (by decide) lk_X9_ofPlayer_f7 rfl dX9_ofPlayer_55 ?_
        refine lv_bipush (v := 7) hx hb dX9_ofPlayer_58 (by decide) ?_
        refine lv_iload_n hx hb dX9_ofPlayer_60 rfl (lv_at hl 1 rfl) ?_
        refine lv_iadd hx hb dX9_ofPlayer_61 ?_
        replace hf := zd_some hf
        obtain ⟨hi_10, hf⟩ := hf
        refine k_iald hx hb hK hO_5 (by decide) (fun _ => rfl) hi_10 dX9_ofPlayer_62 ?_
        obtain ⟨rfl, rfl⟩ := Prod.mk.inj (Option.some.inj hf)
        exact e_i hx hb hr hK hN hO_5 hlocks dX9_ofPlayer_63
      · rw [if_neg c_9] at hf
        by_cases c_11 : a2 = 2
        · rw [if_pos c_11] at hf
          refine k_tabIn (tgt := 64) (off := 47) hx hb c_11 dX9_ofPlayer_17 (by decide) (by decide) rfl (by decide) ?_
          subst c_11
          refine lv_aload_n hx hb dX9_ofPlayer_64 rfl (lv_at hl 0 rfl) ?_
          refine lv_iload_n hx hb dX9_ofPlayer_65 rfl (lv_at hl 1 rfl) ?_
          replace hf := zi_some hf
          obtain ⟨r_13, X_12, hc_12, hf⟩ := hf
          refine k_ai (va_runV (As := [.int a1]) (rest := []) ⟨hx, hb, hml, hown, hts⟩ (mX9_inAll l D L ac hL _ a1 _ _ hc_12) (cwV 1 hts gX9_ofPlayer_X9_inAll rfl rfl rfl (by decide +kernel) ⟨Nat.le_of_ble_eq_true rfl, Nat.le_of_ble_eq_true rfl⟩) (k_pv (j := 15) hK hN hO_5 (by decide) rfl rfl _) rfl rfl hl.1 rfl (lv_room (Nat.le_of_ble_eq_true rfl)) dX9_ofPlayer_66 ⟨Nat.le_of_ble_eq_true rfl, Nat.le_of_ble_eq_true rfl⟩) hA hO_5 (fun H_14 locs_14 hO_14 => ?_)
          clear hO_5
          refine lv_bipush (v := 100) hx hb dX9_ofPlayer_69 (by decide) ?_
          refine lv_iadd hx hb dX9_ofPlayer_71 ?_
          obtain ⟨rfl, rfl⟩ := Prod.mk.inj (Option.some.inj hf)
          exact e_i hx hb hr hK hN hO_14 hlocks dX9_ofPlayer_72
        · rw [if_neg c_11] at hf
          refine lv_tableOut (tgt := 73) hx hb dX9_ofPlayer_17 (tb_out 3 (by decide) (fun k hk => ?_)) (by decide) ?_
          · match k, hk with
            | 0, _ => exact c_7
            | 1, _ => exact c_9
            | 2, _ => exact c_11
            | n + 3, hk => exact absurd hk (by omega)
          refine lv_bipush (v := (-2)) hx hb dX9_ofPlayer_73 (by decide) ?_
          obtain ⟨rfl, rfl⟩ := Prod.mk.inj (Option.some.inj hf)
          exact e_i hx hb hr hK hN hO_5 hlocks dX9_ofPlayer_75
  · rw [if_pos c_6] at hf
    subst c_6
    refine lv_iconst (v := (-1)) hx hb dX9_ofPlayer_14 (by decide) ?_
    obtain ⟨rfl, rfl⟩ := Prod.mk.inj (Option.some.inj hf)
    exact e_i hx hb hr hK hN hO_5 hlocks dX9_ofPlayer_15
theorem in_X9_count_X9 : ∀ w ∈ u_ws RX9 TX9 16, w ∈ wsX9_count := by decide +kernel
theorem lk_X9_count_f176 : Cond.fieldLink RX9 176 "PoisonPilesModel" "length" "I" ∈ wsX9_count := by decide +kernel
theorem lk_X9_count_f41 : Cond.fieldLink RX9 41 "PoisonPilesModel" "thrown" "I" ∈ wsX9_count := by decide +kernel
theorem lk_X9_count_f49 : Cond.fieldLink RX9 49 "PoisonPilesModel" "undoMany" "I" ∈ wsX9_count := by decide +kernel
theorem lk_X9_count_f7 : Cond.fieldLink RX9 7 "PoisonPilesModel" "s" "[I" ∈ wsX9_count := by decide +kernel
def fX9_count  (a1 : Int32) (X : XM) : Option (Int32 × XM) := zl (xup X 22 0 0) (fun X_1 => if a1 = 0 then some (X_1 23 2, X_1) else (if a1 = 1 then zi (fX9_tokens X_1) (fun r_6 X_5 => some (r_6, X_5)) else (if a1 = 2 then some (X_1 23 3, X_1) else (if a1 = 3 then zi (fX9_isOver X_1) (fun r_11 X_10 => if r_11 = 0 then some (0, X_10) else some (1, X_10)) else (if a1 = 4 then zi (fX9_winner X_1) (fun r_16 X_15 => some (r_16, X_15)) else (if a1 = 5 then some (X_1 23 6, X_1) else (if a1 = 6 then some (X_1 23 4, X_1) else (if a1 = 7 then some (X_1 23 0, X_1) else (if a1 = 8 then some (X_1 23 1, X_1) else (if a1 = 9 then some (X_1 22 2, X_1) else (if a1 = 10 then some (X_1 22 1, X_1) else (some ((-2), X_1)))))))))))))
set_option maxHeartbeats 4000000 in
set_option maxRecDepth 100000 in
theorem mX9_count (l : Launch) (D : va_G) (L : Nat → Nat) (ac : Nat → ClassId) (hL : LL L) (X : XM) (a1 : Int32) (r0 : Int32) (X0 : XM) (hf : fX9_count a1 X = some (r0, X0)) : Ci l yX9_count wsX9_count ({ frames := 6, cells := 0, slots := 0, locals := 130 }) D L ac X [.ref (L 15), .int a1] r0 X0 := by
  refine Met.ofK (cc := cX9_count) (maxL := 2) (ret := (some .int)) (lv := [(0, .ref (L 15)), (1, .int a1)]) (by decide +kernel) rfl (Nat.le_of_ble_eq_true rfl) rfl ?_
  intro p e s m below meth c F hO ls hl
  obtain ⟨hx, hb, hr, hts, hown, hlocks, hml, hK, hN⟩ := id F
  have hA : ∀ q, fr L q → fr L q := fun q h => h
  unfold fX9_count at hf
  refine lv_aload_n hx hb dX9_count_0 rfl (lv_at hl 0 rfl) ?_
  refine lv_iconst (v := 0) hx hb dX9_count_1 (by decide) ?_
  refine k_put (ty := .int) (k := 0) (r := 22) (k' := 0) hx hb tyX9 tyX9_ok nmX9 hts in_X9_count_X9 hown hK  hL hA hO (by decide) rfl (by omega) (fun Y => rfl) (by simp [xup]) rfl (by decide) lk_X9_count_f41 rfl (by decide +kernel) rfl rfl (Nat.le_of_ble_eq_true rfl) dX9_count_2 (fun H_2 locs_2 hO_2 => ?_)
  replace hf := zl_some hf
  obtain ⟨X_1, hX_1, hf⟩ := hf
  have hQ_2 := zo_eq hX_1 hO_2
  clear hO_2 hO
  refine lv_iload_n hx hb dX9_count_5 rfl (lv_at hl 1 rfl) ?_
  by_cases c_3 : a1 = 0
  · rw [if_pos c_3] at hf
    refine k_tabIn (tgt := 64) (off := 58) hx hb c_3 dX9_count_6 (by decide) (by decide) rfl (by decide) ?_
    subst c_3
    refine lv_aload_n hx hb dX9_count_64 rfl (lv_at hl 0 rfl) ?_
    refine k_get (k := 1) (v := .ref (L 16)) hx hb hts in_X9_count_X9 hown hK hQ_2 (by decide) rfl rfl (by decide) lk_X9_count_f7 rfl dX9_count_65 ?_
    refine lv_iconst (v := 2) hx hb dX9_count_68 (by decide) ?_
    refine k_iald hx hb hK hQ_2 (by decide) (fun _ => rfl) (show vp_in 2 27 from by unfold vp_in; decide) dX9_count_69 ?_
    refine lv_tope (z := X_1 23 2) rfl ?_
    obtain ⟨rfl, rfl⟩ := Prod.mk.inj (Option.some.inj hf)
    exact e_i hx hb hr hK hN hQ_2 hlocks dX9_count_70
  · rw [if_neg c_3] at hf
    by_cases c_4 : a1 = 1
    · rw [if_pos c_4] at hf
      refine k_tabIn (tgt := 71) (off := 65) hx hb c_4 dX9_count_6 (by decide) (by decide) rfl (by decide) ?_
      subst c_4
      refine lv_aload_n hx hb dX9_count_71 rfl (lv_at hl 0 rfl) ?_
      replace hf := zi_some hf
      obtain ⟨r_6, X_5, hc_5, hf⟩ := hf
      refine k_ai (va_runV (As := []) (rest := []) ⟨hx, hb, hml, hown, hts⟩ (mX9_tokens l D L ac hL _  _ _ hc_5) (cwV 0 hts gX9_count_X9_tokens rfl rfl rfl (by decide +kernel) ⟨Nat.le_of_ble_eq_true rfl, Nat.le_of_ble_eq_true rfl⟩) (k_pv (j := 15) hK hN hQ_2 (by decide) rfl rfl _) rfl rfl hl.1 rfl (lv_room (Nat.le_of_ble_eq_true rfl)) dX9_count_72 ⟨Nat.le_of_ble_eq_true rfl, Nat.le_of_ble_eq_true rfl⟩) hA hQ_2 (fun H_7 locs_7 hO_7 => ?_)
      clear hQ_2
      obtain ⟨rfl, rfl⟩ := Prod.mk.inj (Option.some.inj hf)
      exact e_i hx hb hr hK hN hO_7 hlocks dX9_count_75
    · rw [if_neg c_4] at hf
      by_cases c_8 : a1 = 2
      · rw [if_pos c_8] at hf
        refine k_tabIn (tgt := 76) (off := 70) hx hb c_8 dX9_count_6 (by decide) (by decide) rfl (by decide) ?_
        subst c_8
        refine lv_aload_n hx hb dX9_count_76 rfl (lv_at hl 0 rfl) ?_
        refine k_get (k := 1) (v := .ref (L 16)) hx hb hts in_X9_count_X9 hown hK hQ_2 (by decide) rfl rfl (by decide) lk_X9_count_f7 rfl dX9_count_77 ?_
        refine lv_iconst (v := 3) hx hb dX9_count_80 (by decide) ?_
        refine k_iald hx hb hK hQ_2 (by decide) (fun _ => rfl) (show vp_in 3 27 from by unfold vp_in; decide) dX9_count_81 ?_
        refine lv_tope (z := X_1 23 3) rfl ?_
        obtain ⟨rfl, rfl⟩ := Prod.mk.inj (Option.some.inj hf)
        exact e_i hx hb hr hK hN hQ_2 hlocks dX9_count_82
      · rw [if_neg c_8] at hf
        by_cases c_9 : a1 = 3
        · rw [if_pos c_9] at hf
          refine k_tabIn (tgt := 83) (off := 77) hx hb c_9 dX9_count_6 (by decide) (by decide) rfl (by decide) ?_
          subst c_9
          refine lv_aload_n hx hb dX9_count_83 rfl (lv_at hl 0 rfl) ?_
          replace hf := zi_some hf
          obtain ⟨r_11, X_10, hc_10, hf⟩ := hf
          refine k_ai (va_runV (As := []) (rest := []) ⟨hx, hb, hml, hown, hts⟩ (mX9_isOver l D L ac hL _  _ _ hc_10) (cwV 0 hts gX9_count_X9_isOver rfl rfl rfl (by decide +kernel) ⟨Nat.le_of_ble_eq_true rfl, Nat.le_of_ble_eq_true rfl⟩) (k_pv (j := 15) hK hN hQ_2 (by decide) rfl rfl _) rfl rfl hl.1 rfl (lv_room (Nat.le_of_ble_eq_true rfl)) dX9_count_84 ⟨Nat.le_of_ble_eq_true rfl, Nat.le_of_ble_eq_true rfl⟩) hA hQ_2 (fun H_12 locs_12 hO_12 => ?_)
          clear hQ_2
          refine lv_if_eq (tgt := 94) hx hb dX9_count_87 (by decide) (fun c_13 => ?_) (fun c_13 => ?_)
          · rw [if_pos c_13] at hf
            subst c_13
            refine lv_iconst (v := 0) hx hb dX9_count_94 (by decide) ?_
            obtain ⟨rfl, rfl⟩ := Prod.mk.inj (Option.some.inj hf)
            exact e_i hx hb hr hK hN hO_12 hlocks dX9_count_95
          · rw [if_neg c_13] at hf
            refine lv_iconst (v := 1) hx hb dX9_count_90 (by decide) ?_
            refine lv_goto (tgt := 95) hx hb dX9_count_91 (by decide) ?_
            obtain ⟨rfl, rfl⟩ := Prod.mk.inj (Option.some.inj hf)
            exact e_i hx hb hr hK hN hO_12 hlocks dX9_count_95
        · rw [if_neg c_9] at hf
          by_cases c_14 : a1 = 4
          · rw [if_pos c_14] at hf
            refine k_tabIn (tgt := 96) (off := 90) hx hb c_14 dX9_count_6 (by decide) (by decide) rfl (by decide) ?_
            subst c_14
            refine lv_aload_n hx hb dX9_count_96 rfl (lv_at hl 0 rfl) ?_
            replace hf := zi_some hf
            obtain ⟨r_16, X_15, hc_15, hf⟩ := hf
            refine k_ai (va_runV (As := []) (rest := []) ⟨hx, hb, hml, hown, hts⟩ (mX9_winner l D L ac hL _  _ _ hc_15) (cwV 0 hts gX9_count_X9_winner rfl rfl rfl (by decide +kernel) ⟨Nat.le_of_ble_eq_true rfl, Nat.le_of_ble_eq_true rfl⟩) (k_pv (j := 15) hK hN hQ_2 (by decide) rfl rfl _) rfl rfl hl.1 rfl (lv_room (Nat.le_of_ble_eq_true rfl)) dX9_count_97 ⟨Nat.le_of_ble_eq_true rfl, Nat.le_of_ble_eq_true rfl⟩) hA hQ_2 (fun H_17 locs_17 hO_17 => ?_)
            clear hQ_2
            obtain ⟨rfl, rfl⟩ := Prod.mk.inj (Option.some.inj hf)
            exact e_i hx hb hr hK hN hO_17 hlocks dX9_count_100
          · rw [if_neg c_14] at hf
            by_cases c_18 : a1 = 5
            · rw [if_pos c_18] at hf
              refine k_tabIn (tgt := 101) (off := 95) hx hb c_18 dX9_count_6 (by decide) (by decide) rfl (by decide) ?_
              subst c_18
              refine lv_aload_n hx hb dX9_count_101 rfl (lv_at hl 0 rfl) ?_
              refine k_get (k := 1) (v := .ref (L 16)) hx hb hts in_X9_count_X9 hown hK hQ_2 (by decide) rfl rfl (by decide) lk_X9_count_f7 rfl dX9_count_102 ?_
              refine lv_bipush (v := 6) hx hb dX9_count_105 (by decide) ?_
              refine k_iald hx hb hK hQ_2 (by decide) (fun _ => rfl) (show vp_in 6 27 from by unfold vp_in; decide) dX9_count_107 ?_
              refine lv_tope (z := X_1 23 6) rfl ?_
              obtain ⟨rfl, rfl⟩ := Prod.mk.inj (Option.some.inj hf)
              exact e_i hx hb hr hK hN hQ_2 hlocks dX9_count_108
            · rw [if_neg c_18] at hf
              by_cases c_19 : a1 = 6
              · rw [if_pos c_19] at hf
                refine k_tabIn (tgt := 109) (off := 103) hx hb c_19 dX9_count_6 (by decide) (by decide) rfl (by decide) ?_
                subst c_19
                refine lv_aload_n hx hb dX9_count_109 rfl (lv_at hl 0 rfl) ?_
                refine k_get (k := 1) (v := .ref (L 16)) hx hb hts in_X9_count_X9 hown hK hQ_2 (by decide) rfl rfl (by decide) lk_X9_count_f7 rfl dX9_count_110 ?_
                refine lv_iconst (v := 4) hx hb dX9_count_113 (by decide) ?_
                refine k_iald hx hb hK hQ_2 (by decide) (fun _ => rfl) (show vp_in 4 27 from by unfold vp_in; decide) dX9_count_114 ?_
                refine lv_tope (z := X_1 23 4) rfl ?_
                obtain ⟨rfl, rfl⟩ := Prod.mk.inj (Option.some.inj hf)
                exact e_i hx hb hr hK hN hQ_2 hlocks dX9_count_115
              · rw [if_neg c_19] at hf
                by_cases c_20 : a1 = 7
                · rw [if_pos c_20] at hf
                  refine k_tabIn (tgt := 116) (off := 110) hx hb c_20 dX9_count_6 (by decide) (by decide) rfl (by decide) ?_
                  subst c_20
                  refine lv_aload_n hx hb dX9_count_116 rfl (lv_at hl 0 rfl) ?_
                  refine k_get (k := 1) (v := .ref (L 16)) hx hb hts in_X9_count_X9 hown hK hQ_2 (by decide) rfl rfl (by decide) lk_X9_count_f7 rfl dX9_count_117 ?_
                  refine lv_iload_n hx hb dX9_count_120 rfl (lv_at hl 1 rfl) ?_
                  refine lv_bipush (v := 7) hx hb dX9_count_121 (by decide) ?_
                  refine lv_isub hx hb dX9_count_123 ?_
                  refine lv_tope (z := 0) (by decide) ?_
                  refine k_iald hx hb hK hQ_2 (by decide) (fun _ => rfl) (show vp_in 0 27 from by unfold vp_in; decide) dX9_count_124 ?_
                  refine lv_tope (z := X_1 23 0) rfl ?_
                  obtain ⟨rfl, rfl⟩ := Prod.mk.inj (Option.some.inj hf)
                  exact e_i hx hb hr hK hN hQ_2 hlocks dX9_count_125
                · rw [if_neg c_20] at hf
                  by_cases c_21 : a1 = 8
                  · rw [if_pos c_21] at hf
                    refine k_tabIn (tgt := 116) (off := 110) hx hb c_21 dX9_count_6 (by decide) (by decide) rfl (by decide) ?_
                    subst c_21
                    refine lv_aload_n hx hb dX9_count_116 rfl (lv_at hl 0 rfl) ?_
                    refine k_get (k := 1) (v := .ref (L 16)) hx hb hts in_X9_count_X9 hown hK hQ_2 (by decide) rfl rfl (by decide) lk_X9_count_f7 rfl dX9_count_117 ?_
                    refine lv_iload_n hx hb dX9_count_120 rfl (lv_at hl 1 rfl) ?_
                    refine lv_bipush (v := 7) hx hb dX9_count_121 (by decide) ?_
                    refine lv_isub hx hb dX9_count_123 ?_
                    refine lv_tope (z := 1) (by decide) ?_
                    refine k_iald hx hb hK hQ_2 (by decide) (fun _ => rfl) (show vp_in 1 27 from by unfold vp_in; decide) dX9_count_124 ?_
                    refine lv_tope (z := X_1 23 1) rfl ?_
                    obtain ⟨rfl, rfl⟩ := Prod.mk.inj (Option.some.inj hf)
                    exact e_i hx hb hr hK hN hQ_2 hlocks dX9_count_125
                  · rw [if_neg c_21] at hf
                    by_cases c_22 : a1 = 9
                    · rw [if_pos c_22] at hf
                      refine k_tabIn (tgt := 126) (off := 120) hx hb c_22 dX9_count_6 (by decide) (by decide) rfl (by decide) ?_
                      subst c_22
                      refine lv_aload_n hx hb dX9_count_126 rfl (lv_at hl 0 rfl) ?_
                      refine k_get (k := 8) (v := .int (X_1 22 2)) hx hb hts in_X9_count_X9 hown hK hQ_2 (by decide) rfl rfl (by decide) lk_X9_count_f176 rfl dX9_count_127 ?_
                      obtain ⟨rfl, rfl⟩ := Prod.mk.inj (Option.some.inj hf)
                      exact e_i hx hb hr hK hN hQ_2 hlocks dX9_count_130
                    · rw [if_neg c_22] at hf
                      by_cases c_23 : a1 = 10
                      · rw [if_pos c_23] at hf
                        refine k_tabIn (tgt := 131) (off := 125) hx hb c_23 dX9_count_6 (by decide) (by decide) rfl (by decide) ?_
                        subst c_23
                        refine lv_aload_n hx hb dX9_count_131 rfl (lv_at hl 0 rfl) ?_
                        refine k_get (k := 4) (v := .int (X_1 22 1)) hx hb hts in_X9_count_X9 hown hK hQ_2 (by decide) rfl rfl (by decide) lk_X9_count_f49 rfl dX9_count_132 ?_
                        obtain ⟨rfl, rfl⟩ := Prod.mk.inj (Option.some.inj hf)
                        exact e_i hx hb hr hK hN hQ_2 hlocks dX9_count_135
                      · rw [if_neg c_23] at hf
                        refine lv_tableOut (tgt := 136) hx hb dX9_count_6 (tb_out 11 (by decide) (fun k hk => ?_)) (by decide) ?_
                        · match k, hk with
                          | 0, _ => exact c_3
                          | 1, _ => exact c_4
                          | 2, _ => exact c_8
                          | 3, _ => exact c_9
                          | 4, _ => exact c_14
                          | 5, _ => exact c_18
                          | 6, _ => exact c_19
                          | 7, _ => exact c_20
                          | 8, _ => exact c_21
                          | 9, _ => exact c_22
                          | 10, _ => exact c_23
                          | n + 11, hk => exact absurd hk (by omega)
                        refine lv_bipush (v := (-2)) hx hb dX9_count_136 (by decide) ?_
                        obtain ⟨rfl, rfl⟩ := Prod.mk.inj (Option.some.inj hf)
                        exact e_i hx hb hr hK hN hQ_2 hlocks dX9_count_138
theorem in_X9_moves_X9 : ∀ w ∈ u_ws RX9 TX9 16, w ∈ wsX9_moves := by decide +kernel
theorem lk_X9_moves_f41 : Cond.fieldLink RX9 41 "PoisonPilesModel" "thrown" "I" ∈ wsX9_moves := by decide +kernel
def fX9_moves   (X : XM) : Option (Int32 × XM) := zl (xup X 22 0 0) (fun X_1 => zi (fX9_movesNow X_1) (fun r_4 X_3 => some (r_4, X_3)))
set_option maxHeartbeats 4000000 in
set_option maxRecDepth 100000 in
theorem mX9_moves (l : Launch) (D : va_G) (L : Nat → Nat) (ac : Nat → ClassId) (hL : LL L) (X : XM)  (r0 : Int32) (X0 : XM) (hf : fX9_moves  X = some (r0, X0)) : Ci l yX9_moves wsX9_moves ({ frames := 4, cells := 0, slots := 0, locals := 90 }) D L ac X [.ref (L 15)] r0 X0 := by
  refine Met.ofK (cc := cX9_moves) (maxL := 1) (ret := (some .int)) (lv := [(0, .ref (L 15))]) (by decide +kernel) rfl (Nat.le_of_ble_eq_true rfl) rfl ?_
  intro p e s m below meth c F hO ls hl
  obtain ⟨hx, hb, hr, hts, hown, hlocks, hml, hK, hN⟩ := id F
  have hA : ∀ q, fr L q → fr L q := fun q h => h
  unfold fX9_moves at hf
  refine lv_aload_n hx hb dX9_moves_0 rfl (lv_at hl 0 rfl) ?_
  refine lv_iconst (v := 0) hx hb dX9_moves_1 (by decide) ?_
  refine k_put (ty := .int) (k := 0) (r := 22) (k' := 0) hx hb tyX9 tyX9_ok nmX9 hts in_X9_moves_X9 hown hK  hL hA hO (by decide) rfl (by omega) (fun Y => rfl) (by simp [xup]) rfl (by decide) lk_X9_moves_f41 rfl (by decide +kernel) rfl rfl (Nat.le_of_ble_eq_true rfl) dX9_moves_2 (fun H_2 locs_2 hO_2 => ?_)
  replace hf := zl_some hf
  obtain ⟨X_1, hX_1, hf⟩ := hf
  have hQ_2 := zo_eq hX_1 hO_2
  clear hO_2 hO
  refine lv_aload_n hx hb dX9_moves_5 rfl (lv_at hl 0 rfl) ?_
  replace hf := zi_some hf
  obtain ⟨r_4, X_3, hc_3, hf⟩ := hf
  refine k_ai (va_runV (As := []) (rest := []) ⟨hx, hb, hml, hown, hts⟩ (mX9_movesNow l D L ac hL _  _ _ hc_3) (cwV 0 hts gX9_moves_X9_movesNow rfl rfl rfl (by decide +kernel) ⟨Nat.le_of_ble_eq_true rfl, Nat.le_of_ble_eq_true rfl⟩) (k_pv (j := 15) hK hN hQ_2 (by decide) rfl rfl _) rfl rfl hl.1 rfl (lv_room (Nat.le_of_ble_eq_true rfl)) dX9_moves_6 ⟨Nat.le_of_ble_eq_true rfl, Nat.le_of_ble_eq_true rfl⟩) hA hQ_2 (fun H_5 locs_5 hO_5 => ?_)
  clear hQ_2
  obtain ⟨rfl, rfl⟩ := Prod.mk.inj (Option.some.inj hf)
  exact e_i hx hb hr hK hN hO_5 hlocks dX9_moves_9
theorem in_X9_won_X9 : ∀ w ∈ u_ws RX9 TX9 16, w ∈ wsX9_won := by decide +kernel
theorem lk_X9_won_f32 : Cond.fieldLink RX9 32 "PoisonPilesModel" "isWon" "[Z" ∈ wsX9_won := by decide +kernel
theorem lk_X9_won_f41 : Cond.fieldLink RX9 41 "PoisonPilesModel" "thrown" "I" ∈ wsX9_won := by decide +kernel
theorem lk_X9_won_f7 : Cond.fieldLink RX9 7 "PoisonPilesModel" "s" "[I" ∈ wsX9_won := by decide +kernel
def fX9_won   (X : XM) : Option (Int32 × XM) := zl (xup X 22 0 0) (fun X_1 => zi (fX9_isOver X_1) (fun r_4 X_3 => if r_4 = 0 then zv (fX9_reckonsAll X_3) (fun X_7 => zi (fX9_code X_7) (fun r_10 X_9 => zi (fX9_own X_9) (fun r_13 X_12 => zi (fX9_others X_12) (fun r_16 X_15 => zi (fX9_game r_10 r_13 r_16 (X_15 23 4) X_15) (fun r_19 X_18 => zd r_19 23328 (if (X_18 30 (Int32.toNatClampNeg r_19)) = 0 then some (0, X_18) else some (1, X_18))))))) else some ((-5), X_3)))
set_option maxHeartbeats 4000000 in
set_option maxRecDepth 100000 in
theorem mX9_won (l : Launch) (D : va_G) (L : Nat → Nat) (ac : Nat → ClassId) (hL : LL L) (X : XM)  (r0 : Int32) (X0 : XM) (hf : fX9_won  X = some (r0, X0)) : Ci l yX9_won wsX9_won ({ frames := 7, cells := 0, slots := 0, locals := 160 }) D L ac X [.ref (L 15)] r0 X0 := by
  refine Met.ofK (cc := cX9_won) (maxL := 1) (ret := (some .int)) (lv := [(0, .ref (L 15))]) (by decide +kernel) rfl (Nat.le_of_ble_eq_true rfl) rfl ?_
  intro p e s m below meth c F hO ls hl
  obtain ⟨hx, hb, hr, hts, hown, hlocks, hml, hK, hN⟩ := id F
  have hA : ∀ q, fr L q → fr L q := fun q h => h
  unfold fX9_won at hf
  refine lv_aload_n hx hb dX9_won_0 rfl (lv_at hl 0 rfl) ?_
  refine lv_iconst (v := 0) hx hb dX9_won_1 (by decide) ?_
  refine k_put (ty := .int) (k := 0) (r := 22) (k' := 0) hx hb tyX9 tyX9_ok nmX9 hts in_X9_won_X9 hown hK  hL hA hO (by decide) rfl (by omega) (fun Y => rfl) (by simp [xup]) rfl (by decide) lk_X9_won_f41 rfl (by decide +kernel) rfl rfl (Nat.le_of_ble_eq_true rfl) dX9_won_2 (fun H_2 locs_2 hO_2 => ?_)
  replace hf := zl_some hf
  obtain ⟨X_1, hX_1, hf⟩ := hf
  have hQ_2 := zo_eq hX_1 hO_2
  clear hO_2 hO
  refine lv_aload_n hx hb dX9_won_5 rfl (lv_at hl 0 rfl) ?_
  replace hf := zi_some hf
  obtain ⟨r_4, X_3, hc_3, hf⟩ := hf
  refine k_ai (va_runV (As := []) (rest := []) ⟨hx, hb, hml, hown, hts⟩ (mX9_isOver l D L ac hL _  _ _ hc_3) (cwV 0 hts gX9_won_X9_isOver rfl rfl rfl (by decide +kernel) ⟨Nat.le_of_ble_eq_true rfl, Nat.le_of_ble_eq_true rfl⟩) (k_pv (j := 15) hK hN hQ_2 (by decide) rfl rfl _) rfl rfl hl.1 rfl (lv_room (Nat.le_of_ble_eq_true rfl)) dX9_won_6 ⟨Nat.le_of_ble_eq_true rfl, Nat.le_of_ble_eq_true rfl⟩) hA hQ_2 (fun H_5 locs_5 hO_5 => ?_)
  clear hQ_2
  refine lv_if_eq (tgt := 15) hx hb dX9_won_9 (by decide) (fun c_6 => ?_) (fun c_6 => ?_)
  · rw [if_pos c_6] at hf
    subst c_6
    refine lv_aload_n hx hb dX9_won_15 rfl (lv_at hl 0 rfl) ?_
    replace hf := zv_some hf
    obtain ⟨X_7, hc_7, hf⟩ := hf
    refine k_av (va_runV (As := []) (rest := []) ⟨hx, hb, hml, hown, hts⟩ (mX9_reckonsAll l D L ac hL _  _ hc_7) (cwV 0 hts gX9_won_X9_reckonsAll rfl rfl rfl (by decide +kernel) ⟨Nat.le_of_ble_eq_true rfl, Nat.le_of_ble_eq_true rfl⟩) (k_pv (j := 15) hK hN hO_5 (by decide) rfl rfl _) rfl rfl hl.1 rfl (lv_room (Nat.le_of_ble_eq_true rfl)) dX9_won_16 ⟨Nat.le_of_ble_eq_true rfl, Nat.le_of_ble_eq_true rfl⟩) hA hO_5 (fun H_8 locs_8 hO_8 => ?_)
    clear hO_5
    refine lv_aload_n hx hb dX9_won_19 rfl (lv_at hl 0 rfl) ?_
    refine k_get (k := 10) (v := .ref (L 23)) hx hb hts in_X9_won_X9 hown hK hO_8 (by decide) rfl rfl (by decide) lk_X9_won_f32 rfl dX9_won_20 ?_
    refine lv_aload_n hx hb dX9_won_23 rfl (lv_at hl 0 rfl) ?_
    replace hf := zi_some hf
    obtain ⟨r_10, X_9, hc_9, hf⟩ := hf
    refine k_ai (va_runV (As := []) (rest := [.ref (L 23)]) ⟨hx, hb, hml, hown, hts⟩ (mX9_code l D L ac hL _  _ _ hc_9) (cwV 0 hts gX9_won_X9_code rfl rfl rfl (by decide +kernel) ⟨Nat.le_of_ble_eq_true rfl, Nat.le_of_ble_eq_true rfl⟩) (k_pv (j := 15) hK hN hO_8 (by decide) rfl rfl _) rfl rfl hl.1 rfl (lv_room (Nat.le_of_ble_eq_true rfl)) dX9_won_24 ⟨Nat.le_of_ble_eq_true rfl, Nat.le_of_ble_eq_true rfl⟩) hA hO_8 (fun H_11 locs_11 hO_11 => ?_)
    clear hO_8
    refine lv_aload_n hx hb dX9_won_27 rfl (lv_at hl 0 rfl) ?_
    replace hf := zi_some hf
    obtain ⟨r_13, X_12, hc_12, hf⟩ := hf
    refine k_ai (va_runV (As := []) (rest := [.int r_10, .ref (L 23)]) ⟨hx, hb, hml, hown, hts⟩ (mX9_own l D L ac hL _  _ _ hc_12) (cwV 0 hts gX9_won_X9_own rfl rfl rfl (by decide +kernel) ⟨Nat.le_of_ble_eq_true rfl, Nat.le_of_ble_eq_true rfl⟩) (k_pv (j := 15) hK hN hO_11 (by decide) rfl rfl _) rfl rfl hl.1 rfl (lv_room (Nat.le_of_ble_eq_true rfl)) dX9_won_28 ⟨Nat.le_of_ble_eq_true rfl, Nat.le_of_ble_eq_true rfl⟩) hA hO_11 (fun H_14 locs_14 hO_14 => ?_)
    clear hO_11
    refine lv_aload_n hx hb dX9_won_31 rfl (lv_at hl 0 rfl) ?_
    replace hf := zi_some hf
    obtain ⟨r_16, X_15, hc_15, hf⟩ := hf
    refine k_ai (va_runV (As := []) (rest := [.int r_13, .int r_10, .ref (L 23)]) ⟨hx, hb, hml, hown, hts⟩ (mX9_others l D L ac hL _  _ _ hc_15) (cwV 0 hts gX9_won_X9_others rfl rfl rfl (by decide +kernel) ⟨Nat.le_of_ble_eq_true rfl, Nat.le_of_ble_eq_true rfl⟩) (k_pv (j := 15) hK hN hO_14 (by decide) rfl rfl _) rfl rfl hl.1 rfl (lv_room (Nat.le_of_ble_eq_true rfl)) dX9_won_32 ⟨Nat.le_of_ble_eq_true rfl, Nat.le_of_ble_eq_true rfl⟩) hA hO_14 (fun H_17 locs_17 hO_17 => ?_)
    clear hO_14
    refine lv_aload_n hx hb dX9_won_35 rfl (lv_at hl 0 rfl) ?_
    refine k_get (k := 1) (v := .ref (L 16)) hx hb hts in_X9_won_X9 hown hK hO_17 (by decide) rfl rfl (by decide) lk_X9_won_f7 rfl dX9_won_36 ?_
    refine lv_iconst (v := 4) hx hb dX9_won_39 (by decide) ?_
    refine k_iald hx hb hK hO_17 (by decide) (fun _ => rfl) (show vp_in 4 27 from by unfold vp_in; decide) dX9_won_40 ?_
    refine lv_tope (z := X_15 23 4) rfl ?_
    replace hf := zi_some hf
    obtain ⟨r_19, X_18, hc_18, hf⟩ := hf
    refine k_ai (va_runS (As := [.int r_10, .int r_13, .int r_16, .int (X_15 23 4)]) (rest := [.ref (L 23)]) ⟨hx, hb, hml, hown, hts⟩ (mX9_game l D L ac hL _ r_10 r_13 r_16 (X_15 23 4) _ _ hc_18) (va_cwS 4 hts gX9_won_X9_game rfl rfl rfl (by decide +kernel) ⟨Nat.le_of_ble_eq_true rfl, Nat.le_of_ble_eq_true rfl⟩) (k_ps hK hN hO_17 _) rfl rfl hl.1 rfl (lv_room (Nat.le_of_ble_eq_true rfl)) dX9_won_41 ⟨Nat.le_of_ble_eq_true rfl, Nat.le_of_ble_eq_true rfl⟩) hA hO_17 (fun H_20 locs_20 hO_20 => ?_)
    clear hO_17
    replace hf := zd_some hf
    obtain ⟨hi_21, hf⟩ := hf
    refine k_zald hx hb hK hO_20 (by decide) (fun _ => rfl) hi_21 dX9_won_44 ?_
    refine lv_if_eq (tgt := 52) hx hb dX9_won_45 (by decide) (fun c_22 => ?_) (fun c_22 => ?_)
    · rw [if_pos c_22] at hf
      refine lv_iconst (v := 0) hx hb dX9_won_52 (by decide) ?_
      obtain ⟨rfl, rfl⟩ := Prod.mk.inj (Option.some.inj hf)
      exact e_i hx hb hr hK hN hO_20 hlocks dX9_won_53
    · rw [if_neg c_22] at hf
      refine lv_iconst (v := 1) hx hb dX9_won_48 (by decide) ?_
      refine lv_goto (tgt := 53) hx hb dX9_won_49 (by decide) ?_
      obtain ⟨rfl, rfl⟩ := Prod.mk.inj (Option.some.inj hf)
      exact e_i hx hb hr hK hN hO_20 hlocks dX9_won_53
  · rw [if_neg c_6] at hf
    refine lv_bipush (v := (-5)) hx hb dX9_won_12 (by decide) ?_
    obtain ⟨rfl, rfl⟩ := Prod.mk.inj (Option.some.inj hf)
    exact e_i hx hb hr hK hN hO_5 hlocks dX9_won_14
theorem in_X9_winning_X9 : ∀ w ∈ u_ws RX9 TX9 16, w ∈ wsX9_winning := by decide +kernel
theorem lk_X9_winning_f41 : Cond.fieldLink RX9 41 "PoisonPilesModel" "thrown" "I" ∈ wsX9_winning := by decide +kernel
def fX9_winning_25   : Nat → Int32 → Int32 → Int32 → XM → Option (Int32 × XM)
  | 0, _, _, _, _ => none
  | n + 1, x1, x2, x3, X => if 21 ≤ x3 then some (x2, X) else if ((o_shr x1 x3) &&& 1) = 1 then zi (fX9_code X) (fun r_9 X_8 => zi (fX9_own X_8) (fun r_12 X_11 => zi (fX9_others X_11) (fun r_15 X_14 => zi (fX9_wins x3 r_9 r_12 r_15 X_14) (fun r_18 X_17 => if r_18 = 0 then zl (x2 ||| 0) (fun v_23 => fX9_winning_25 n x1 v_23 (x3 + 1) X_17) else zl (x2 ||| (o_shl 1 x3)) (fun v_28 => fX9_winning_25 n x1 v_28 (x3 + 1) X_17))))) else zl (x2 ||| 0) (fun v_5 => fX9_winning_25 n x1 v_5 (x3 + 1) X)
set_option maxHeartbeats 4000000 in
set_option maxRecDepth 100000 in
theorem wX9_winning_25 {p : Program} {l : Launch} {e : Env} {s : State} {m : MethodId} {args : Array Value} {below : List Frame} {meth : Method} {c : Code} {D : va_G} {L : Nat → Nat} {ac : Nat → ClassId} {r0 : Int32} {X0 : XM} (hL : LL L) (F : Fx p s m args meth c cX9_winning 5 (some .int) wsX9_winning yX9_winning.cls D ac) : ∀ (n : Nat) (x1 : Int32) (x2 : Int32) (x3 : Int32) (X : XM) (H : Heap) (locs : List Loc) (ls : Array Slot), Oh D L ac X (fr L) s.heap H locs → lv_has ls 5 [(0, .ref (L 15)), (1, .int x1), (2, .int x2), (3, .int x3)] → fX9_winning_25 n x1 x2 x3 X = some (r0, X0) → W p l e (headSpec wsX9_winning ({ frames := 7, cells := 0, slots := 0, locals := 160 })).room s m args below meth c H locs 0 0 (MQ below (va_Qi (fun (r : Int32) (Y : XM) => r = r0 ∧ Y = X0) (fun (Y : XM) t => St D L ac Y t) (fr L)) args s 0 0 (fr L)) (F0 m 25 ls []) := by
  obtain ⟨hx, hb, hr, hts, hown, hlocks, hml, hK, hN⟩ := id F
  have hA : ∀ q, fr L q → fr L q := fun q h => h
  intro n
  induction n with
  | zero => intro x1 x2 x3 X H locs ls hO hl hf; simp [fX9_winning_25] at hf
  | succ n ih =>
    intro x1 x2 x3 X H locs ls hO hl hf
    rw [fX9_winning_25] at hf
    refine lv_iload_n hx hb dX9_winning_25 rfl (lv_at hl 3 rfl) ?_
    refine lv_bipush (v := 21) hx hb dX9_winning_26 (by decide) ?_
    refine lv_icmp_ge (tgt := 88) hx hb dX9_winning_28 (by decide) (fun c_1 => ?_) (fun c_1 => ?_)
    · rw [if_pos c_1] at hf
      refine lv_iload_n hx hb dX9_winning_88 rfl (lv_at hl 2 rfl) ?_
      obtain ⟨rfl, rfl⟩ := Prod.mk.inj (Option.some.inj hf)
      exact e_i hx hb hr hK hN hO hlocks dX9_winning_89
    · rw [if_neg c_1] at hf
      refine lv_iload_n hx hb dX9_winning_31 rfl (lv_at hl 1 rfl) ?_
      refine lv_iload_n hx hb dX9_winning_32 rfl (lv_at hl 3 rfl) ?_
      refine lv_ishr hx hb dX9_winning_33 ?_
      refine lv_iconst (v := 1) hx hb dX9_winning_34 (by decide) ?_
      refine lv_iand hx hb dX9_winning_35 ?_
      refine lv_iconst (v := 1) hx hb dX9_winning_36 (by decide) ?_
      refine lv_icmp_ne (tgt := 64) hx hb dX9_winning_37 (by decide) (fun c_2 => ?_) (fun c_2 => ?_)
      · rw [if_neg c_2] at hf
        refine lv_iconst (v := 0) hx hb dX9_winning_64 (by decide) ?_
        refine lv_istore (lv' := [(4, .int 0), (0, .ref (L 15)), (1, .int x1), (2, .int x2), (3, .int x3)]) hx hb dX9_winning_65 hl (by decide) rfl (fun ls_3 hl_3 => ?_)
        clear hl
        refine lv_iload_n hx hb dX9_winning_67 rfl (lv_at hl_3 3 rfl) ?_
        refine lv_iload hx hb dX9_winning_68 (lv_at hl_3 0 rfl) ?_
        refine lv_if_eq (tgt := 79) hx hb dX9_winning_70 (by decide) (fun _ => ?_) (fun c_4 => absurd (by decide) c_4)
        refine lv_iconst (v := 0) hx hb dX9_winning_79 (by decide) ?_
        refine lv_ior hx hb dX9_winning_80 ?_
        replace hf := zl_some hf
        obtain ⟨v_5, hv_5, hf⟩ := hf
        refine lv_tope hv_5 ?_
        refine lv_istore_n (lv' := [(2, .int v_5), (4, .int 0), (0, .ref (L 15)), (1, .int x1), (3, .int x3)]) hx hb dX9_winning_81 rfl hl_3 (by decide) rfl (fun ls_6 hl_6 => ?_)
        clear hl_3
        refine lv_iinc (v := x3 + 1) (lv' := [(3, .int (x3 + 1)), (2, .int v_5), (4, .int 0), (0, .ref (L 15)), (1, .int x1)]) hx hb dX9_winning_82 hl_6 (k := 4) rfl rfl (by decide) rfl (fun ls_7 hl_7 => ?_)
        clear hl_6
        refine lv_goto (tgt := 25) hx hb dX9_winning_85 (by decide) ?_
        exact ih _ _ _ _  _ _ _ hO (lv_sub hl_7 [3, 4, 1, 0] rfl) hf
      · rw [if_pos c_2] at hf
        refine lv_aload_n hx hb dX9_winning_40 rfl (lv_at hl 0 rfl) ?_
        refine lv_iload_n hx hb dX9_winning_41 rfl (lv_at hl 3 rfl) ?_
        refine lv_aload_n hx hb dX9_winning_42 rfl (lv_at hl 0 rfl) ?_
        replace hf := zi_some hf
        obtain ⟨r_9, X_8, hc_8, hf⟩ := hf
        refine k_ai (va_runV (As := []) (rest := [.int x3, .ref (L 15)]) ⟨hx, hb, hml, hown, hts⟩ (mX9_code l D L ac hL _  _ _ hc_8) (cwV 0 hts gX9_winning_X9_code rfl rfl rfl (by decide +kernel) ⟨Nat.le_of_ble_eq_true rfl, Nat.le_of_ble_eq_true rfl⟩) (k_pv (j := 15) hK hN hO (by decide) rfl rfl _) rfl rfl hl.1 rfl (lv_room (Nat.le_of_ble_eq_true rfl)) dX9_winning_43 ⟨Nat.le_of_ble_eq_true rfl, Nat.le_of_ble_eq_true rfl⟩) hA hO (fun H_10 locs_10 hO_10 => ?_)
        clear hO
        refine lv_aload_n hx hb dX9_winning_46 rfl (lv_at hl 0 rfl) ?_
        replace hf := zi_some hf
        obtain ⟨r_12, X_11, hc_11, hf⟩ := hf
        refine k_ai (va_runV (As := []) (rest := [.int r_9, .int x3, .ref (L 15)]) ⟨hx, hb, hml, hown, hts⟩ (mX9_own l D L ac hL _  _ _ hc_11) (cwV 0 hts gX9_winning_X9_own rfl rfl rfl (by decide +kernel) ⟨Nat.le_of_ble_eq_true rfl, Nat.le_of_ble_eq_true rfl⟩) (k_pv (j := 15) hK hN hO_10 (by decide) rfl rfl _) rfl rfl hl.1 rfl (lv_room (Nat.le_of_ble_eq_true rfl)) dX9_winning_47 ⟨Nat.le_of_ble_eq_true rfl, Nat.le_of_ble_eq_true rfl⟩) hA hO_10 (fun H_13 locs_13 hO_13 => ?_)
        clear hO_10
        refine lv_aload_n hx hb dX9_winning_50 rfl (lv_at hl 0 rfl) ?_
        replace hf := zi_some hf
        obtain ⟨r_15, X_14, hc_14, hf⟩ := hf
        refine k_ai (va_runV (As := []) (rest := [.int r_12, .int r_9, .int x3, .ref (L 15)]) ⟨hx, hb, hml, hown, hts⟩ (mX9_others l D L ac hL _  _ _ hc_14) (cwV 0 hts gX9_winning_X9_others rfl rfl rfl (by decide +kernel) ⟨Nat.le_of_ble_eq_true rfl, Nat.le_of_ble_eq_true rfl⟩) (k_pv (j := 15) hK hN hO_13 (by decide) rfl rfl _) rfl rfl hl.1 rfl (lv_room (Nat.le_of_ble_eq_true rfl)) dX9_winning_51 ⟨Nat.le_of_ble_eq_true rfl, Nat.le_of_ble_eq_true rfl⟩) hA hO_13 (fun H_16 locs_16 hO_16 => ?_)
        clear hO_13
        replace hf := zi_some hf
        obtain ⟨r_18, X_17, hc_17, hf⟩ := hf
        refine k_ai (va_runV (As := [.int x3, .int r_9, .int r_12, .int r_15]) (rest := []) ⟨hx, hb, hml, hown, hts⟩ (mX9_wins l D L ac hL _ x3 r_9 r_12 r_15 _ _ hc_17) (cwV 4 hts gX9_winning_X9_wins rfl rfl rfl (by decide +kernel) ⟨Nat.le_of_ble_eq_true rfl, Nat.le_of_ble_eq_true rfl⟩) (k_pv (j := 15) hK hN hO_16 (by decide) rfl rfl _) rfl rfl hl.1 rfl (lv_room (Nat.le_of_ble_eq_true rfl)) dX9_winning_54 ⟨Nat.le_of_ble_eq_true rfl, Nat.le_of_ble_eq_true rfl⟩) hA hO_16 (fun H_19 locs_19 hO_19 => ?_)
        clear hO_16
        refine lv_if_eq (tgt := 64) hx hb dX9_winning_57 (by decide) (fun c_20 => ?_) (fun c_20 => ?_)
        · rw [if_pos c_20] at hf
          subst c_20
          refine lv_iconst (v := 0) hx hb dX9_winning_64 (by decide) ?_
          refine lv_istore (lv' := [(4, .int 0), (0, .ref (L 15)), (1, .int x1), (2, .int x2), (3, .int x3)]) hx hb dX9_winning_65 hl (by decide) rfl (fun ls_21 hl_21 => ?_)
          clear hl
          refine lv_iload_n hx hb dX9_winning_67 rfl (lv_at hl_21 3 rfl) ?_
          refine lv_iload hx hb dX9_winning_68 (lv_at hl_21 0 rfl) ?_
          refine lv_if_eq (tgt := 79) hx hb dX9_winning_70 (by decide) (fun _ => ?_) (fun c_22 => absurd (by decide) c_22)
          refine lv_iconst (v := 0) hx hb dX9_winning_79 (by decide) ?_
          refine lv_ior hx hb dX9_winning_80 ?_
          replace hf := zl_some hf
          obtain ⟨v_23, hv_23, hf⟩ := hf
          refine lv_tope hv_23 ?_
          refine lv_istore_n (lv' := [(2, .int v_23), (4, .int 0), (0, .ref (L 15)), (1, .int x1), (3, .int x3)]) hx hb dX9_winning_81 rfl hl_21 (by decide) rfl (fun ls_24 hl_24 => ?_)
          clear hl_21
          refine lv_iinc (v := x3 + 1) (lv' := [(3, .int (x3 + 1)), (2, .int v_23), (4, .int 0), (0, .ref (L 15)), (1, .int x1)]) hx hb dX9_winning_82 hl_24 (k := 4) rfl rfl (by decide) rfl (fun ls_25 hl_25 => ?_)
          clear hl_24
          refine lv_goto (tgt := 25) hx hb dX9_winning_85 (by decide) ?_
          exact ih _ _ _ _  _ _ _ hO_19 (lv_sub hl_25 [3, 4, 1, 0] rfl) hf
        · rw [if_neg c_20] at hf
          refine lv_iconst (v := 1) hx hb dX9_winning_60 (by decide) ?_
          refine lv_goto (tgt := 65) hx hb dX9_winning_61 (by decide) ?_
          refine lv_istore (lv' := [(4, .int 1), (0, .ref (L 15)), (1, .int x1), (2, .int x2), (3, .int x3)]) hx hb dX9_winning_65 hl (by decide) rfl (fun ls_26 hl_26 => ?_)
          clear hl
          refine lv_iload_n hx hb dX9_winning_67 rfl (lv_at hl_26 3 rfl) ?_
          refine lv_iload hx hb dX9_winning_68 (lv_at hl_26 0 rfl) ?_
          refine lv_if_eq (tgt := 79) hx hb dX9_winning_70 (by decide) (fun c_27 => absurd c_27 (by decide)) (fun _ => ?_)
          refine lv_iconst (v := 1) hx hb dX9_winning_73 (by decide) ?_
          refine lv_iload_n hx hb dX9_winning_74 rfl (lv_at hl_26 4 rfl) ?_
          refine lv_ishl hx hb dX9_winning_75 ?_
          refine lv_goto (tgt := 80) hx hb dX9_winning_76 (by decide) ?_
          refine lv_ior hx hb dX9_winning_80 ?_
          replace hf := zl_some hf
          obtain ⟨v_28, hv_28, hf⟩ := hf
          refine lv_tope hv_28 ?_
          refine lv_istore_n (lv' := [(2, .int v_28), (4, .int 1), (0, .ref (L 15)), (1, .int x1), (3, .int x3)]) hx hb dX9_winning_81 rfl hl_26 (by decide) rfl (fun ls_29 hl_29 => ?_)
          clear hl_26
          refine lv_iinc (v := x3 + 1) (lv' := [(3, .int (x3 + 1)), (2, .int v_28), (4, .int 1), (0, .ref (L 15)), (1, .int x1)]) hx hb dX9_winning_82 hl_29 (k := 4) rfl rfl (by decide) rfl (fun ls_30 hl_30 => ?_)
          clear hl_29
          refine lv_goto (tgt := 25) hx hb dX9_winning_85 (by decide) ?_
          exact ih _ _ _ _  _ _ _ hO_19 (lv_sub hl_30 [3, 4, 1, 0] rfl) hf
def fX9_winning   (X : XM) : Option (Int32 × XM) := zl (xup X 22 0 0) (fun X_31 => zi (fX9_movesNow X_31) (fun r_34 X_33 => if r_34 = 0 then some ((-5), X_33) else zv (fX9_reckonsAll X_33) (fun X_38 => fX9_winning_25 fuel r_34 0 0 X_38)))
set_option maxHeartbeats 4000000 in
set_option maxRecDepth 100000 in
theorem mX9_winning (l : Launch) (D : va_G) (L : Nat → Nat) (ac : Nat → ClassId) (hL : LL L) (X : XM)  (r0 : Int32) (X0 : XM) (hf : fX9_winning  X = some (r0, X0)) : Ci l yX9_winning wsX9_winning ({ frames := 7, cells := 0, slots := 0, locals := 160 }) D L ac X [.ref (L 15)] r0 X0 := by
  refine Met.ofK (cc := cX9_winning) (maxL := 5) (ret := (some .int)) (lv := [(0, .ref (L 15))]) (by decide +kernel) rfl (Nat.le_of_ble_eq_true rfl) rfl ?_
  intro p e s m below meth c F hO ls hl
  obtain ⟨hx, hb, hr, hts, hown, hlocks, hml, hK, hN⟩ := id F
  have hA : ∀ q, fr L q → fr L q := fun q h => h
  unfold fX9_winning at hf
  refine lv_aload_n hx hb dX9_winning_0 rfl (lv_at hl 0 rfl) ?_
  refine lv_iconst (v := 0) hx hb dX9_winning_1 (by decide) ?_
  refine k_put (ty := .int) (k := 0) (r := 22) (k' := 0) hx hb tyX9 tyX9_ok nmX9 hts in_X9_winning_X9 hown hK  hL hA hO (by decide) rfl (by omega) (fun Y => rfl) (by simp [xup]) rfl (by decide) lk_X9_winning_f41 rfl (by decide +kernel) rfl rfl (Nat.le_of_ble_eq_true rfl) dX9_winning_2 (fun H_32 locs_32 hO_32 => ?_)
  replace hf := zl_some hf
  obtain ⟨X_31, hX_31, hf⟩ := hf
  have hQ_32 := zo_eq hX_31 hO_32
  clear hO_32 hO
  refine lv_aload_n hx hb dX9_winning_5 rfl (lv_at hl 0 rfl) ?_
  replace hf := zi_some hf
  obtain ⟨r_34, X_33, hc_33, hf⟩ := hf
  refine k_ai (va_runV (As := []) (rest := []) ⟨hx, hb, hml, hown, hts⟩ (mX9_movesNow l D L ac hL _  _ _ hc_33) (cwV 0 hts gX9_winning_X9_movesNow rfl rfl rfl (by decide +kernel) ⟨Nat.le_of_ble_eq_true rfl, Nat.le_of_ble_eq_true rfl⟩) (k_pv (j := 15) hK hN hQ_32 (by decide) rfl rfl _) rfl rfl hl.1 rfl (lv_room (Nat.le_of_ble_eq_true rfl)) dX9_winning_6 ⟨Nat.le_of_ble_eq_true rfl, Nat.le_of_ble_eq_true rfl⟩) hA hQ_32 (fun H_35 locs_35 hO_35 => ?_)
  clear hQ_32
  refine lv_istore_n (lv' := [(1, .int r_34), (0, .ref (L 15))]) hx hb dX9_winning_9 rfl hl (by decide) rfl (fun ls_36 hl_36 => ?_)
  clear hl
  refine lv_iload_n hx hb dX9_winning_10 rfl (lv_at hl_36 0 rfl) ?_
  refine lv_if_ne (tgt := 17) hx hb dX9_winning_11 (by decide) (fun c_37 => ?_) (fun c_37 => ?_)
  · rw [if_neg c_37] at hf
    refine lv_aload_n hx hb dX9_winning_17 rfl (lv_at hl_36 1 rfl) ?_
    replace hf := zv_some hf
    obtain ⟨X_38, hc_38, hf⟩ := hf
    refine k_av (va_runV (As := []) (rest := []) ⟨hx, hb, hml, hown, hts⟩ (mX9_reckonsAll l D L ac hL _  _ hc_38) (cwV 0 hts gX9_winning_X9_reckonsAll rfl rfl rfl (by decide +kernel) ⟨Nat.le_of_ble_eq_true rfl, Nat.le_of_ble_eq_true rfl⟩) (k_pv (j := 15) hK hN hO_35 (by decide) rfl rfl _) rfl rfl hl_36.1 rfl (lv_room (Nat.le_of_ble_eq_true rfl)) dX9_winning_18 ⟨Nat.le_of_ble_eq_true rfl, Nat.le_of_ble_eq_true rfl⟩) hA hO_35 (fun H_39 locs_39 hO_39 => ?_)
    clear hO_35
    refine lv_iconst (v := 0) hx hb dX9_winning_21 (by decide) ?_
    refine lv_istore_n (lv' := [(2, .int 0), (1, .int r_34), (0, .ref (L 15))]) hx hb dX9_winning_22 rfl hl_36 (by decide) rfl (fun ls_40 hl_40 => ?_)
    clear hl_36
    refine lv_iconst (v := 0) hx hb dX9_winning_23 (by decide) ?_
    refine lv_istore_n (lv' := [(3, .int 0), (2, .int 0), (1, .int r_34), (0, .ref (L 15))]) hx hb dX9_winning_24 rfl hl_40 (by decide) rfl (fun ls_41 hl_41 => ?_)
    clear hl_40
    exact wX9_winning_25 hL F  fuel _ _ _ _  _ _ _ hO_39 (lv_sub hl_41 [3, 2, 1, 0] rfl) hf
  · rw [if_pos c_37] at hf
    subst c_37
    refine lv_bipush (v := (-5)) hx hb dX9_winning_14 (by decide) ?_
    obtain ⟨rfl, rfl⟩ := Prod.mk.inj (Option.some.inj hf)
    exact e_i hx hb hr hK hN hO_35 hlocks dX9_winning_16
theorem in_X9_value_X9 : ∀ w ∈ u_ws RX9 TX9 16, w ∈ wsX9_value := by decide +kernel
theorem lk_X9_value_f29 : Cond.fieldLink RX9 29 "PoisonPilesModel" "values" "[I" ∈ wsX9_value := by decide +kernel
theorem lk_X9_value_f41 : Cond.fieldLink RX9 41 "PoisonPilesModel" "thrown" "I" ∈ wsX9_value := by decide +kernel
theorem lk_X9_value_f7 : Cond.fieldLink RX9 7 "PoisonPilesModel" "s" "[I" ∈ wsX9_value := by decide +kernel
def fX9_value   (X : XM) : Option (Int32 × XM) := zl (xup X 22 0 0) (fun X_1 => zi (fX9_isOver X_1) (fun r_4 X_3 => if r_4 = 0 then zv (fX9_reckonsAll X_3) (fun X_7 => zi (fX9_code X_7) (fun r_10 X_9 => zi (fX9_own X_9) (fun r_13 X_12 => zi (fX9_others X_12) (fun r_16 X_15 => zi (fX9_game r_10 r_13 r_16 (X_15 23 4) X_15) (fun r_19 X_18 => zd r_19 23328 (some ((X_18 29 (Int32.toNatClampNeg r_19)) + 1000, X_18))))))) else some ((-5), X_3)))
set_option maxHeartbeats 4000000 in
set_option maxRecDepth 100000 in
theorem mX9_value (l : Launch) (D : va_G) (L : Nat → Nat) (ac : Nat → ClassId) (hL : LL L) (X : XM)  (r0 : Int32) (X0 : XM) (hf : fX9_value  X = some (r0, X0)) : Ci l yX9_value wsX9_value ({ frames := 7, cells := 0, slots := 0, locals := 160 }) D L ac X [.ref (L 15)] r0 X0 := by
  refine Met.ofK (cc := cX9_value) (maxL := 1) (ret := (some .int)) (lv := [(0, .ref (L 15))]) (by decide +kernel) rfl (Nat.le_of_ble_eq_true rfl) rfl ?_
  intro p e s m below meth c F hO ls hl
  obtain ⟨hx, hb, hr, hts, hown, hlocks, hml, hK, hN⟩ := id F
  have hA : ∀ q, fr L q → fr L q := fun q h => h
  unfold fX9_value at hf
  refine lv_aload_n hx hb dX9_value_0 rfl (lv_at hl 0 rfl) ?_
  refine lv_iconst (v := 0) hx hb dX9_value_1 (by decide) ?_
  refine k_put (ty := .int) (k := 0) (r := 22) (k' := 0) hx hb tyX9 tyX9_ok nmX9 hts in_X9_value_X9 hown hK  hL hA hO (by decide) rfl (by omega) (fun Y => rfl) (by simp [xup]) rfl (by decide) lk_X9_value_f41 rfl (by decide +kernel) rfl rfl (Nat.le_of_ble_eq_true rfl) dX9_value_2 (fun H_2 locs_2 hO_2 => ?_)
  replace hf := zl_some hf
  obtain ⟨X_1, hX_1, hf⟩ := hf
  have hQ_2 := zo_eq hX_1 hO_2
  clear hO_2 hO
  refine lv_aload_n hx hb dX9_value_5 rfl (lv_at hl 0 rfl) ?_
  replace hf := zi_some hf
  obtain ⟨r_4, X_3, hc_3, hf⟩ := hf
  refine k_ai (va_runV (As := []) (rest := []) ⟨hx, hb, hml, hown, hts⟩ (mX9_isOver l D L ac hL _  _ _ hc_3) (cwV 0 hts gX9_value_X9_isOver rfl rfl rfl (by decide +kernel) ⟨Nat.le_of_ble_eq_true rfl, Nat.le_of_ble_eq_true rfl⟩) (k_pv (j := 15) hK hN hQ_2 (by decide) rfl rfl _) rfl rfl hl.1 rfl (lv_room (Nat.le_of_ble_eq_true rfl)) dX9_value_6 ⟨Nat.le_of_ble_eq_true rfl, Nat.le_of_ble_eq_true rfl⟩) hA hQ_2 (fun H_5 locs_5 hO_5 => ?_)
  clear hQ_2
  refine lv_if_eq (tgt := 15) hx hb dX9_value_9 (by decide) (fun c_6 => ?_) (fun c_6 => ?_)
  · rw [if_pos c_6] at hf
    subst c_6
    refine lv_aload_n hx hb dX9_value_15 rfl (lv_at hl 0 rfl) ?_
    replace hf := zv_some hf
    obtain ⟨X_7, hc_7, hf⟩ := hf
    refine k_av (va_runV (As := []) (rest := []) ⟨hx, hb, hml, hown, hts⟩ (mX9_reckonsAll l D L ac hL _  _ hc_7) (cwV 0 hts gX9_value_X9_reckonsAll rfl rfl rfl (by decide +kernel) ⟨Nat.le_of_ble_eq_true rfl, Nat.le_of_ble_eq_true rfl⟩) (k_pv (j := 15) hK hN hO_5 (by decide) rfl rfl _) rfl rfl hl.1 rfl (lv_room (Nat.le_of_ble_eq_true rfl)) dX9_value_16 ⟨Nat.le_of_ble_eq_true rfl, Nat.le_of_ble_eq_true rfl⟩) hA hO_5 (fun H_8 locs_8 hO_8 => ?_)
    clear hO_5
    refine lv_aload_n hx hb dX9_value_19 rfl (lv_at hl 0 rfl) ?_
    refine k_get (k := 9) (v := .ref (L 22)) hx hb hts in_X9_value_X9 hown hK hO_8 (by decide) rfl rfl (by decide) lk_X9_value_f29 rfl dX9_value_20 ?_
    refine lv_aload_n hx hb dX9_value_23 rfl (lv_at hl 0 rfl) ?_
    replace hf := zi_some hf
    obtain ⟨r_10, X_9, hc_9, hf⟩ := hf
    refine k_ai (va_runV (As := []) (rest := [.ref (L 22)]) ⟨hx, hb, hml, hown, hts⟩ (mX9_code l D L ac hL _  _ _ hc_9) (cwV 0 hts gX9_value_X9_code rfl rfl rfl (by decide +kernel) ⟨Nat.le_of_ble_eq_true rfl, Nat.le_of_ble_eq_true rfl⟩) (k_pv (j := 15) hK hN hO_8 (by decide) rfl rfl _) rfl rfl hl.1 rfl (lv_room (Nat.le_of_ble_eq_true rfl)) dX9_value_24 ⟨Nat.le_of_ble_eq_true rfl, Nat.le_of_ble_eq_true rfl⟩) hA hO_8 (fun H_11 locs_11 hO_11 => ?_)
    clear hO_8
    refine lv_aload_n hx hb dX9_value_27 rfl (lv_at hl 0 rfl) ?_
    replace hf := zi_some hf
    obtain ⟨r_13, X_12, hc_12, hf⟩ := hf
    refine k_ai (va_runV (As := []) (rest := [.int r_10, .ref (L 22)]) ⟨hx, hb, hml, hown, hts⟩ (mX9_own l D L ac hL _  _ _ hc_12) (cwV 0 hts gX9_value_X9_own rfl rfl rfl (by decide +kernel) ⟨Nat.le_of_ble_eq_true rfl, Nat.le_of_ble_eq_true rfl⟩) (k_pv (j := 15) hK hN hO_11 (by decide) rfl rfl _) rfl rfl hl.1 rfl (lv_room (Nat.le_of_ble_eq_true rfl)) dX9_value_28 ⟨Nat.le_of_ble_eq_true rfl, Nat.le_of_ble_eq_true rfl⟩) hA hO_11 (fun H_14 locs_14 hO_14 => ?_)
    clear hO_11
    refine lv_aload_n hx hb dX9_value_31 rfl (lv_at hl 0 rfl) ?_
    replace hf := zi_some hf
    obtain ⟨r_16, X_15, hc_15, hf⟩ := hf
    refine k_ai (va_runV (As := []) (rest := [.int r_13, .int r_10, .ref (L 22)]) ⟨hx, hb, hml, hown, hts⟩ (mX9_others l D L ac hL _  _ _ hc_15) (cwV 0 hts gX9_value_X9_others rfl rfl rfl (by decide +kernel) ⟨Nat.le_of_ble_eq_true rfl, Nat.le_of_ble_eq_true rfl⟩) (k_pv (j := 15) hK hN hO_14 (by decide) rfl rfl _) rfl rfl hl.1 rfl (lv_room (Nat.le_of_ble_eq_true rfl)) dX9_value_32 ⟨Nat.le_of_ble_eq_true rfl, Nat.le_of_ble_eq_true rfl⟩) hA hO_14 (fun H_17 locs_17 hO_17 => ?_)
    clear hO_14
    refine lv_aload_n hx hb dX9_value_35 rfl (lv_at hl 0 rfl) ?_
    refine k_get (k := 1) (v := .ref (L 16)) hx hb hts in_X9_value_X9 hown hK hO_17 (by decide) rfl rfl (by decide) lk_X9_value_f7 rfl dX9_value_36 ?_
    refine lv_iconst (v := 4) hx hb dX9_value_39 (by decide) ?_
    refine k_iald hx hb hK hO_17 (by decide) (fun _ => rfl) (show vp_in 4 27 from by unfold vp_in; decide) dX9_value_40 ?_
    refine lv_tope (z := X_15 23 4) rfl ?_
    replace hf := zi_some hf
    obtain ⟨r_19, X_18, hc_18, hf⟩ := hf
    refine k_ai (va_runS (As := [.int r_10, .int r_13, .int r_16, .int (X_15 23 4)]) (rest := [.ref (L 22)]) ⟨hx, hb, hml, hown, hts⟩ (mX9_game l D L ac hL _ r_10 r_13 r_16 (X_15 23 4) _ _ hc_18) (va_cwS 4 hts gX9_value_X9_game rfl rfl rfl (by decide +kernel) ⟨Nat.le_of_ble_eq_true rfl, Nat.le_of_ble_eq_true rfl⟩) (k_ps hK hN hO_17 _) rfl rfl hl.1 rfl (lv_room (Nat.le_of_ble_eq_true rfl)) dX9_value_41 ⟨Nat.le_of_ble_eq_true rfl, Nat.le_of_ble_eq_true rfl⟩) hA hO_17 (fun H_20 locs_20 hO_20 => ?_)
    clear hO_17
    replace hf := zd_some hf
    obtain ⟨hi_21, hf⟩ := hf
    refine k_iald hx hb hK hO_20 (by decide) (fun _ => rfl) hi_21 dX9_value_44 ?_
    refine lv_sipush (v := 1000) hx hb dX9_value_45 (by decide) ?_
    refine lv_iadd hx hb dX9_value_48 ?_
    obtain ⟨rfl, rfl⟩ := Prod.mk.inj (Option.some.inj hf)
    exact e_i hx hb hr hK hN hO_20 hlocks dX9_value_49
  · rw [if_neg c_6] at hf
    refine lv_bipush (v := (-5)) hx hb dX9_value_12 (by decide) ?_
    obtain ⟨rfl, rfl⟩ := Prod.mk.inj (Option.some.inj hf)
    exact e_i hx hb hr hK hN hO_5 hlocks dX9_value_14
theorem in_X9_best_X9 : ∀ w ∈ u_ws RX9 TX9 16, w ∈ wsX9_best := by decide +kernel
theorem lk_X9_best_f41 : Cond.fieldLink RX9 41 "PoisonPilesModel" "thrown" "I" ∈ wsX9_best := by decide +kernel
def fX9_best   (X : XM) : Option (Int32 × XM) := zl (xup X 22 0 0) (fun X_1 => zi (fX9_isOver X_1) (fun r_4 X_3 => if r_4 = 0 then zv (fX9_reckonsAll X_3) (fun X_7 => zi (fX9_bestMove X_7) (fun r_10 X_9 => some (r_10, X_9))) else some ((-5), X_3)))
set_option maxHeartbeats 4000000 in
set_option maxRecDepth 100000 in
theorem mX9_best (l : Launch) (D : va_G) (L : Nat → Nat) (ac : Nat → ClassId) (hL : LL L) (X : XM)  (r0 : Int32) (X0 : XM) (hf : fX9_best  X = some (r0, X0)) : Ci l yX9_best wsX9_best ({ frames := 7, cells := 0, slots := 0, locals := 160 }) D L ac X [.ref (L 15)] r0 X0 := by
  refine Met.ofK (cc := cX9_best) (maxL := 1) (ret := (some .int)) (lv := [(0, .ref (L 15))]) (by decide +kernel) rfl (Nat.le_of_ble_eq_true rfl) rfl ?_
  intro p e s m below meth c F hO ls hl
  obtain ⟨hx, hb, hr, hts, hown, hlocks, hml, hK, hN⟩ := id F
  have hA : ∀ q, fr L q → fr L q := fun q h => h
  unfold fX9_best at hf
  refine lv_aload_n hx hb dX9_best_0 rfl (lv_at hl 0 rfl) ?_
  refine lv_iconst (v := 0) hx hb dX9_best_1 (by decide) ?_
  refine k_put (ty := .int) (k := 0) (r := 22) (k' := 0) hx hb tyX9 tyX9_ok nmX9 hts in_X9_best_X9 hown hK  hL hA hO (by decide) rfl (by omega) (fun Y => rfl) (by simp [xup]) rfl (by decide) lk_X9_best_f41 rfl (by decide +kernel) rfl rfl (Nat.le_of_ble_eq_true rfl) dX9_best_2 (fun H_2 locs_2 hO_2 => ?_)
  replace hf := zl_some hf
  obtain ⟨X_1, hX_1, hf⟩ := hf
  have hQ_2 := zo_eq hX_1 hO_2
  clear hO_2 hO
  refine lv_aload_n hx hb dX9_best_5 rfl (lv_at hl 0 rfl) ?_
  replace hf := zi_some hf
  obtain ⟨r_4, X_3, hc_3, hf⟩ := hf
  refine k_ai (va_runV (As := []) (rest := []) ⟨hx, hb, hml, hown, hts⟩ (mX9_isOver l D L ac hL _  _ _ hc_3) (cwV 0 hts gX9_best_X9_isOver rfl rfl rfl (by decide +kernel) ⟨Nat.le_of_ble_eq_true rfl, Nat.le_of_ble_eq_true rfl⟩) (k_pv (j := 15) hK hN hQ_2 (by decide) rfl rfl _) rfl rfl hl.1 rfl (lv_room (Nat.le_of_ble_eq_true rfl)) dX9_best_6 ⟨Nat.le_of_ble_eq_true rfl, Nat.le_of_ble_eq_true rfl⟩) hA hQ_2 (fun H_5 locs_5 hO_5 => ?_)
  clear hQ_2
  refine lv_if_eq (tgt := 15) hx hb dX9_best_9 (by decide) (fun c_6 => ?_) (fun c_6 => ?_)
  · rw [if_pos c_6] at hf
    subst c_6
    refine lv_aload_n hx hb dX9_best_15 rfl (lv_at hl 0 rfl) ?_
    replace hf := zv_some hf
    obtain ⟨X_7, hc_7, hf⟩ := hf
    refine k_av (va_runV (As := []) (rest := []) ⟨hx, hb, hml, hown, hts⟩ (mX9_reckonsAll l D L ac hL _  _ hc_7) (cwV 0 hts gX9_best_X9_reckonsAll rfl rfl rfl (by decide +kernel) ⟨Nat.le_of_ble_eq_true rfl, Nat.le_of_ble_eq_true rfl⟩) (k_pv (j := 15) hK hN hO_5 (by decide) rfl rfl _) rfl rfl hl.1 rfl (lv_room (Nat.le_of_ble_eq_true rfl)) dX9_best_16 ⟨Nat.le_of_ble_eq_true rfl, Nat.le_of_ble_eq_true rfl⟩) hA hO_5 (fun H_8 locs_8 hO_8 => ?_)
    clear hO_5
    refine lv_aload_n hx hb dX9_best_19 rfl (lv_at hl 0 rfl) ?_
    replace hf := zi_some hf
    obtain ⟨r_10, X_9, hc_9, hf⟩ := hf
    refine k_ai (va_runV (As := []) (rest := []) ⟨hx, hb, hml, hown, hts⟩ (mX9_bestMove l D L ac hL _  _ _ hc_9) (cwV 0 hts gX9_best_X9_bestMove rfl rfl rfl (by decide +kernel) ⟨Nat.le_of_ble_eq_true rfl, Nat.le_of_ble_eq_true rfl⟩) (k_pv (j := 15) hK hN hO_8 (by decide) rfl rfl _) rfl rfl hl.1 rfl (lv_room (Nat.le_of_ble_eq_true rfl)) dX9_best_20 ⟨Nat.le_of_ble_eq_true rfl, Nat.le_of_ble_eq_true rfl⟩) hA hO_8 (fun H_11 locs_11 hO_11 => ?_)
    clear hO_8
    obtain ⟨rfl, rfl⟩ := Prod.mk.inj (Option.some.inj hf)
    exact e_i hx hb hr hK hN hO_11 hlocks dX9_best_23
  · rw [if_neg c_6] at hf
    refine lv_bipush (v := (-5)) hx hb dX9_best_12 (by decide) ?_
    obtain ⟨rfl, rfl⟩ := Prod.mk.inj (Option.some.inj hf)
    exact e_i hx hb hr hK hN hO_5 hlocks dX9_best_14
theorem in_X9_grundy_X9 : ∀ w ∈ u_ws RX9 TX9 16, w ∈ wsX9_grundy := by decide +kernel
theorem lk_X9_grundy_f41 : Cond.fieldLink RX9 41 "PoisonPilesModel" "thrown" "I" ∈ wsX9_grundy := by decide +kernel
def fX9_grundy  (a1 : Int32) (X : XM) : Option (Int32 × XM) := zl (xup X 22 0 0) (fun X_1 => zi (fX9_in a1 0 200 X_1) (fun r_4 X_3 => if r_4 = 0 then some ((-2), X_3) else zi (fX9_grundyOf a1 X_3) (fun r_8 X_7 => some (r_8, X_7))))
set_option maxHeartbeats 4000000 in
set_option maxRecDepth 100000 in
theorem mX9_grundy (l : Launch) (D : va_G) (L : Nat → Nat) (ac : Nat → ClassId) (hL : LL L) (X : XM) (a1 : Int32) (r0 : Int32) (X0 : XM) (hf : fX9_grundy a1 X = some (r0, X0)) : Ci l yX9_grundy wsX9_grundy ({ frames := 4, cells := 0, slots := 0, locals := 87 }) D L ac X [.ref (L 15), .int a1] r0 X0 := by
  refine Met.ofK (cc := cX9_grundy) (maxL := 2) (ret := (some .int)) (lv := [(0, .ref (L 15)), (1, .int a1)]) (by decide +kernel) rfl (Nat.le_of_ble_eq_true rfl) rfl ?_
  intro p e s m below meth c F hO ls hl
  obtain ⟨hx, hb, hr, hts, hown, hlocks, hml, hK, hN⟩ := id F
  have hA : ∀ q, fr L q → fr L q := fun q h => h
  unfold fX9_grundy at hf
  refine lv_aload_n hx hb dX9_grundy_0 rfl (lv_at hl 0 rfl) ?_
  refine lv_iconst (v := 0) hx hb dX9_grundy_1 (by decide) ?_
  refine k_put (ty := .int) (k := 0) (r := 22) (k' := 0) hx hb tyX9 tyX9_ok nmX9 hts in_X9_grundy_X9 hown hK  hL hA hO (by decide) rfl (by omega) (fun Y => rfl) (by simp [xup]) rfl (by decide) lk_X9_grundy_f41 rfl (by decide +kernel) rfl rfl (Nat.le_of_ble_eq_true rfl) dX9_grundy_2 (fun H_2 locs_2 hO_2 => ?_)
  replace hf := zl_some hf
  obtain ⟨X_1, hX_1, hf⟩ := hf
  have hQ_2 := zo_eq hX_1 hO_2
  clear hO_2 hO
  refine lv_iload_n hx hb dX9_grundy_5 rfl (lv_at hl 1 rfl) ?_
  refine lv_iconst (v := 0) hx hb dX9_grundy_6 (by decide) ?_
  refine lv_sipush (v := 200) hx hb dX9_grundy_7 (by decide) ?_
  replace hf := zi_some hf
  obtain ⟨r_4, X_3, hc_3, hf⟩ := hf
  refine k_ai (va_runS (As := [.int a1, .int 0, .int 200]) (rest := []) ⟨hx, hb, hml, hown, hts⟩ (mX9_in l D L ac hL _ a1 0 200 _ _ hc_3) (va_cwS 3 hts gX9_grundy_X9_in rfl rfl rfl (by decide +kernel) ⟨Nat.le_of_ble_eq_true rfl, Nat.le_of_ble_eq_true rfl⟩) (k_ps hK hN hQ_2 _) rfl rfl hl.1 rfl (lv_room (Nat.le_of_ble_eq_true rfl)) dX9_grundy_10 ⟨Nat.le_of_ble_eq_true rfl, Nat.le_of_ble_eq_true rfl⟩) hA hQ_2 (fun H_5 locs_5 hO_5 => ?_)
  clear hQ_2
  refine lv_if_eq (tgt := 24) hx hb dX9_grundy_13 (by decide) (fun c_6 => ?_) (fun c_6 => ?_)
  · rw [if_pos c_6] at hf
    subst c_6
    refine lv_bipush (v := (-2)) hx hb dX9_grundy_24 (by decide) ?_
    obtain ⟨rfl, rfl⟩ := Prod.mk.inj (Option.some.inj hf)
    exact e_i hx hb hr hK hN hO_5 hlocks dX9_grundy_26
  · rw [if_neg c_6] at hf
    refine lv_aload_n hx hb dX9_grundy_16 rfl (lv_at hl 0 rfl) ?_
    refine lv_iload_n hx hb dX9_grundy_17 rfl (lv_at hl 1 rfl) ?_
    replace hf := zi_some hf
    obtain ⟨r_8, X_7, hc_7, hf⟩ := hf
    refine k_ai (va_runV (As := [.int a1]) (rest := []) ⟨hx, hb, hml, hown, hts⟩ (mX9_grundyOf l D L ac hL _ a1 _ _ hc_7) (cwV 1 hts gX9_grundy_X9_grundyOf rfl rfl rfl (by decide +kernel) ⟨Nat.le_of_ble_eq_true rfl, Nat.le_of_ble_eq_true rfl⟩) (k_pv (j := 15) hK hN hO_5 (by decide) rfl rfl _) rfl rfl hl.1 rfl (lv_room (Nat.le_of_ble_eq_true rfl)) dX9_grundy_18 ⟨Nat.le_of_ble_eq_true rfl, Nat.le_of_ble_eq_true rfl⟩) hA hO_5 (fun H_9 locs_9 hO_9 => ?_)
    clear hO_5
    refine lv_goto (tgt := 26) hx hb dX9_grundy_21 (by decide) ?_
    obtain ⟨rfl, rfl⟩ := Prod.mk.inj (Option.some.inj hf)
    exact e_i hx hb hr hK hN hO_9 hlocks dX9_grundy_26
theorem in_X9_firstSize_X9 : ∀ w ∈ u_ws RX9 TX9 16, w ∈ wsX9_firstSize := by decide +kernel
theorem lk_X9_firstSize_f35 : Cond.fieldLink RX9 35 "PoisonPilesModel" "grundies" "[I" ∈ wsX9_firstSize := by decide +kernel
def fX9_firstSize_8   : Nat → Int32 → Int32 → XM → Option (Int32 × XM)
  | 0, _, _, _ => none
  | n + 1, x1, x2, X => if x2 ≤ 0 then some (x2, X) else zd (x2 - 1) 201 (zd ((x2 - 1) + x1) 201 (if (X 31 (Int32.toNatClampNeg (x2 - 1))) = (X 31 (Int32.toNatClampNeg ((x2 - 1) + x1))) then fX9_firstSize_8 n x1 (x2 + (-1)) X else some (x2, X)))
set_option maxHeartbeats 4000000 in
set_option maxRecDepth 100000 in
theorem wX9_firstSize_8 {p : Program} {l : Launch} {e : Env} {s : State} {m : MethodId} {args : Array Value} {below : List Frame} {meth : Method} {c : Code} {D : va_G} {L : Nat → Nat} {ac : Nat → ClassId} {r0 : Int32} {X0 : XM} (hL : LL L) (F : Fx p s m args meth c cX9_firstSize 3 (some .int) wsX9_firstSize yX9_firstSize.cls D ac) : ∀ (n : Nat) (x1 : Int32) (x2 : Int32) (X : XM) (H : Heap) (locs : List Loc) (ls : Array Slot), Oh D L ac X (fr L) s.heap H locs → lv_has ls 3 [(0, .ref (L 15)), (1, .int x1), (2, .int x2)] → fX9_firstSize_8 n x1 x2 X = some (r0, X0) → W p l e (headSpec wsX9_firstSize ({ frames := 0, cells := 0, slots := 0, locals := 0 })).room s m args below meth c H locs 0 0 (MQ below (va_Qi (fun (r : Int32) (Y : XM) => r = r0 ∧ Y = X0) (fun (Y : XM) t => St D L ac Y t) (fr L)) args s 0 0 (fr L)) (F0 m 8 ls []) := by
  obtain ⟨hx, hb, hr, hts, hown, hlocks, hml, hK, hN⟩ := id F
  have hA : ∀ q, fr L q → fr L q := fun q h => h
  intro n
  induction n with
  | zero => intro x1 x2 X H locs ls hO hl hf; simp [fX9_firstSize_8] at hf
  | succ n ih =>
    intro x1 x2 X H locs ls hO hl hf
    rw [fX9_firstSize_8] at hf
    refine lv_iload_n hx hb dX9_firstSize_8 rfl (lv_at hl 2 rfl) ?_
    refine lv_if_le (tgt := 39) hx hb dX9_firstSize_9 (by decide) (fun c_1 => ?_) (fun c_1 => ?_)
    · rw [if_pos c_1] at hf
      refine lv_iload_n hx hb dX9_firstSize_39 rfl (lv_at hl 2 rfl) ?_
      obtain ⟨rfl, rfl⟩ := Prod.mk.inj (Option.some.inj hf)
      exact e_i hx hb hr hK hN hO hlocks dX9_firstSize_40
    · rw [if_neg c_1] at hf
      refine lv_aload_n hx hb dX9_firstSize_12 rfl (lv_at hl 0 rfl) ?_
      refine k_get (k := 11) (v := .ref (L 24)) hx hb hts in_X9_firstSize_X9 hown hK hO (by decide) rfl rfl (by decide) lk_X9_firstSize_f35 rfl dX9_firstSize_13 ?_
      refine lv_iload_n hx hb dX9_firstSize_16 rfl (lv_at hl 2 rfl) ?_
      refine lv_iconst (v := 1) hx hb dX9_firstSize_17 (by decide) ?_
      refine lv_isub hx hb dX9_firstSize_18 ?_
      replace hf := zd_some hf
      obtain ⟨hi_2, hf⟩ := hf
      refine k_iald hx hb hK hO (by decide) (fun _ => rfl) hi_2 dX9_firstSize_19 ?_
      refine lv_aload_n hx hb dX9_firstSize_20 rfl (lv_at hl 0 rfl) ?_
      refine k_get (k := 11) (v := .ref (L 24)) hx hb hts in_X9_firstSize_X9 hown hK hO (by decide) rfl rfl (by decide) lk_X9_firstSize_f35 rfl dX9_firstSize_21 ?_
      refine lv_iload_n hx hb dX9_firstSize_24 rfl (lv_at hl 2 rfl) ?_
      refine lv_iconst (v := 1) hx hb dX9_firstSize_25 (by decide) ?_
      refine lv_isub hx hb dX9_firstSize_26 ?_
      refine lv_iload_n hx hb dX9_firstSize_27 rfl (lv_at hl 1 rfl) ?_
      refine lv_iadd hx hb dX9_firstSize_28 ?_
      replace hf := zd_some hf
      obtain ⟨hi_3, hf⟩ := hf
      refine k_iald hx hb hK hO (by decide) (fun _ => rfl) hi_3 dX9_firstSize_29 ?_
      refine lv_icmp_ne (tgt := 39) hx hb dX9_firstSize_30 (by decide) (fun c_4 => ?_) (fun c_4 => ?_)
      · rw [if_neg c_4] at hf
        refine lv_iload_n hx hb dX9_firstSize_39 rfl (lv_at hl 2 rfl) ?_
        obtain ⟨rfl, rfl⟩ := Prod.mk.inj (Option.some.inj hf)
        exact e_i hx hb hr hK hN hO hlocks dX9_firstSize_40
      · rw [if_pos c_4] at hf
        refine lv_iinc (v := x2 + (-1)) (lv' := [(2, .int (x2 + (-1))), (0, .ref (L 15)), (1, .int x1)]) hx hb dX9_firstSize_33 hl (k := 2) rfl rfl (by decide) rfl (fun ls_5 hl_5 => ?_)
        clear hl
        refine lv_goto (tgt := 8) hx hb dX9_firstSize_36 (by decide) ?_
        exact ih _ _ _  _ _ _ hO (lv_sub hl_5 [1, 2, 0] rfl) hf
def fX9_firstSize  (a1 : Int32) (X : XM) : Option (Int32 × XM) := zl ((200 - a1) + 1) (fun v_6 => fX9_firstSize_8 fuel a1 v_6 X)
set_option maxHeartbeats 4000000 in
set_option maxRecDepth 100000 in
theorem mX9_firstSize (l : Launch) (D : va_G) (L : Nat → Nat) (ac : Nat → ClassId) (hL : LL L) (X : XM) (a1 : Int32) (r0 : Int32) (X0 : XM) (hf : fX9_firstSize a1 X = some (r0, X0)) : Ci l yX9_firstSize wsX9_firstSize ({ frames := 0, cells := 0, slots := 0, locals := 0 }) D L ac X [.ref (L 15), .int a1] r0 X0 := by
  refine Met.ofK (cc := cX9_firstSize) (maxL := 3) (ret := (some .int)) (lv := [(0, .ref (L 15)), (1, .int a1)]) (by decide +kernel) rfl (Nat.le_of_ble_eq_true rfl) rfl ?_
  intro p e s m below meth c F hO ls hl
  obtain ⟨hx, hb, hr, hts, hown, hlocks, hml, hK, hN⟩ := id F
  have hA : ∀ q, fr L q → fr L q := fun q h => h
  unfold fX9_firstSize at hf
  refine lv_sipush (v := 200) hx hb dX9_firstSize_0 (by decide) ?_
  refine lv_iload_n hx hb dX9_firstSize_3 rfl (lv_at hl 1 rfl) ?_
  refine lv_isub hx hb dX9_firstSize_4 ?_
  refine lv_iconst (v := 1) hx hb dX9_firstSize_5 (by decide) ?_
  refine lv_iadd hx hb dX9_firstSize_6 ?_
  replace hf := zl_some hf
  obtain ⟨v_6, hv_6, hf⟩ := hf
  refine lv_tope hv_6 ?_
  refine lv_istore_n (lv' := [(2, .int v_6), (0, .ref (L 15)), (1, .int a1)]) hx hb dX9_firstSize_7 rfl hl (by decide) rfl (fun ls_7 hl_7 => ?_)
  clear hl
  exact wX9_firstSize_8 hL F  fuel _ _ _  _ _ _ hO (lv_sub hl_7 [1, 2, 0] rfl) hf
theorem in_X9_period_X9 : ∀ w ∈ u_ws RX9 TX9 16, w ∈ wsX9_period := by decide +kernel
theorem lk_X9_period_f41 : Cond.fieldLink RX9 41 "PoisonPilesModel" "thrown" "I" ∈ wsX9_period := by decide +kernel
def fX9_period_23   : Nat → Int32 → Int32 → XM → Option (Int32 × XM)
  | 0, _, _, _ => none
  | n + 1, x1, x2, X => if 100 < x2 then some ((-6), X) else zi (fX9_firstSize x2 X) (fun r_3 X_2 => if 100 < (r_3 + x2) then fX9_period_23 n x1 (x2 + 1) X_2 else if x1 = 0 then some (x2, X_2) else some (r_3, X_2))
set_option maxHeartbeats 4000000 in
set_option maxRecDepth 100000 in
theorem wX9_period_23 {p : Program} {l : Launch} {e : Env} {s : State} {m : MethodId} {args : Array Value} {below : List Frame} {meth : Method} {c : Code} {D : va_G} {L : Nat → Nat} {ac : Nat → ClassId} {r0 : Int32} {X0 : XM} (hL : LL L) (F : Fx p s m args meth c cX9_period 4 (some .int) wsX9_period yX9_period.cls D ac) : ∀ (n : Nat) (x1 : Int32) (x2 : Int32) (X : XM) (H : Heap) (locs : List Loc) (ls : Array Slot), Oh D L ac X (fr L) s.heap H locs → lv_has ls 4 [(0, .ref (L 15)), (1, .int x1), (2, .int x2)] → fX9_period_23 n x1 x2 X = some (r0, X0) → W p l e (headSpec wsX9_period ({ frames := 3, cells := 0, slots := 0, locals := 66 })).room s m args below meth c H locs 0 0 (MQ below (va_Qi (fun (r : Int32) (Y : XM) => r = r0 ∧ Y = X0) (fun (Y : XM) t => St D L ac Y t) (fr L)) args s 0 0 (fr L)) (F0 m 23 ls []) := by
  obtain ⟨hx, hb, hr, hts, hown, hlocks, hml, hK, hN⟩ := id F
  have hA : ∀ q, fr L q → fr L q := fun q h => h
  intro n
  induction n with
  | zero => intro x1 x2 X H locs ls hO hl hf; simp [fX9_period_23] at hf
  | succ n ih =>
    intro x1 x2 X H locs ls hO hl hf
    rw [fX9_period_23] at hf
    refine lv_iload_n hx hb dX9_period_23 rfl (lv_at hl 2 rfl) ?_
    refine lv_bipush (v := 100) hx hb dX9_period_24 (by decide) ?_
    refine lv_icmp_gt (tgt := 59) hx hb dX9_period_26 (by decide) (fun c_1 => ?_) (fun c_1 => ?_)
    · rw [if_pos c_1] at hf
      refine lv_bipush (v := (-6)) hx hb dX9_period_59 (by decide) ?_
      obtain ⟨rfl, rfl⟩ := Prod.mk.inj (Option.some.inj hf)
      exact e_i hx hb hr hK hN hO hlocks dX9_period_61
    · rw [if_neg c_1] at hf
      refine lv_aload_n hx hb dX9_period_29 rfl (lv_at hl 0 rfl) ?_
      refine lv_iload_n hx hb dX9_period_30 rfl (lv_at hl 2 rfl) ?_
      replace hf := zi_some hf
      obtain ⟨r_3, X_2, hc_2, hf⟩ := hf
      refine k_ai (va_runV (As := [.int x2]) (rest := []) ⟨hx, hb, hml, hown, hts⟩ (mX9_firstSize l D L ac hL _ x2 _ _ hc_2) (cwV 1 hts gX9_period_X9_firstSize rfl rfl rfl (by decide +kernel) ⟨Nat.le_of_ble_eq_true rfl, Nat.le_of_ble_eq_true rfl⟩) (k_pv (j := 15) hK hN hO (by decide) rfl rfl _) rfl rfl hl.1 rfl (lv_room (Nat.le_of_ble_eq_true rfl)) dX9_period_31 ⟨Nat.le_of_ble_eq_true rfl, Nat.le_of_ble_eq_true rfl⟩) hA hO (fun H_4 locs_4 hO_4 => ?_)
      clear hO
      refine lv_istore_n (lv' := [(3, .int r_3), (0, .ref (L 15)), (1, .int x1), (2, .int x2)]) hx hb dX9_period_34 rfl hl (by decide) rfl (fun ls_5 hl_5 => ?_)
      clear hl
      refine lv_iload_n hx hb dX9_period_35 rfl (lv_at hl_5 0 rfl) ?_
      refine lv_iload_n hx hb dX9_period_36 rfl (lv_at hl_5 3 rfl) ?_
      refine lv_iadd hx hb dX9_period_37 ?_
      refine lv_bipush (v := 100) hx hb dX9_period_38 (by decide) ?_
      refine lv_icmp_gt (tgt := 53) hx hb dX9_period_40 (by decide) (fun c_6 => ?_) (fun c_6 => ?_)
      · rw [if_pos c_6] at hf
        refine lv_iinc (v := x2 + 1) (lv' := [(2, .int (x2 + 1)), (3, .int r_3), (0, .ref (L 15)), (1, .int x1)]) hx hb dX9_period_53 hl_5 (k := 3) rfl rfl (by decide) rfl (fun ls_7 hl_7 => ?_)
        clear hl_5
        refine lv_goto (tgt := 23) hx hb dX9_period_56 (by decide) ?_
        exact ih _ _ _  _ _ _ hO_4 (lv_sub hl_7 [2, 3, 0] rfl) hf
      · rw [if_neg c_6] at hf
        refine lv_iload_n hx hb dX9_period_43 rfl (lv_at hl_5 2 rfl) ?_
        refine lv_if_ne (tgt := 51) hx hb dX9_period_44 (by decide) (fun c_8 => ?_) (fun c_8 => ?_)
        · rw [if_neg c_8] at hf
          refine lv_iload_n hx hb dX9_period_51 rfl (lv_at hl_5 0 rfl) ?_
          obtain ⟨rfl, rfl⟩ := Prod.mk.inj (Option.some.inj hf)
          exact e_i hx hb hr hK hN hO_4 hlocks dX9_period_52
        · rw [if_pos c_8] at hf
          subst c_8
          refine lv_iload_n hx hb dX9_period_47 rfl (lv_at hl_5 3 rfl) ?_
          refine lv_goto (tgt := 52) hx hb dX9_period_48 (by decide) ?_
          obtain ⟨rfl, rfl⟩ := Prod.mk.inj (Option.some.inj hf)
          exact e_i hx hb hr hK hN hO_4 hlocks dX9_period_52
def fX9_period  (a1 : Int32) (X : XM) : Option (Int32 × XM) := zl (xup X 22 0 0) (fun X_9 => zi (fX9_in a1 0 1 X_9) (fun r_12 X_11 => if r_12 = 0 then some ((-2), X_11) else zv (fX9_laysGrundies X_11) (fun X_15 => fX9_period_23 fuel a1 1 X_15)))
set_option maxHeartbeats 4000000 in
set_option maxRecDepth 100000 in
theorem mX9_period (l : Launch) (D : va_G) (L : Nat → Nat) (ac : Nat → ClassId) (hL : LL L) (X : XM) (a1 : Int32) (r0 : Int32) (X0 : XM) (hf : fX9_period a1 X = some (r0, X0)) : Ci l yX9_period wsX9_period ({ frames := 3, cells := 0, slots := 0, locals := 66 }) D L ac X [.ref (L 15), .int a1] r0 X0 := by
  refine Met.ofK (cc := cX9_period) (maxL := 4) (ret := (some .int)) (lv := [(0, .ref (L 15)), (1, .int a1)]) (by decide +kernel) rfl (Nat.le_of_ble_eq_true rfl) rfl ?_
  intro p e s m below meth c F hO ls hl
  obtain ⟨hx, hb, hr, hts, hown, hlocks, hml, hK, hN⟩ := id F
  have hA : ∀ q, fr L q → fr L q := fun q h => h
  unfold fX9_period at hf
  refine lv_aload_n hx hb dX9_period_0 rfl (lv_at hl 0 rfl) ?_
  refine lv_iconst (v := 0) hx hb dX9_period_1 (by decide) ?_
  refine k_put (ty := .int) (k := 0) (r := 22) (k' := 0) hx hb tyX9 tyX9_ok nmX9 hts in_X9_period_X9 hown hK  hL hA hO (by decide) rfl (by omega) (fun Y => rfl) (by simp [xup]) rfl (by decide) lk_X9_period_f41 rfl (by decide +kernel) rfl rfl (Nat.le_of_ble_eq_true rfl) dX9_period_2 (fun H_10 locs_10 hO_10 => ?_)
  replace hf := zl_some hf
  obtain ⟨X_9, hX_9, hf⟩ := hf
  have hQ_10 := zo_eq hX_9 hO_10
  clear hO_10 hO
  refine lv_iload_n hx hb dX9_period_5 rfl (lv_at hl 1 rfl) ?_
  refine lv_iconst (v := 0) hx hb dX9_period_6 (by decide) ?_
  refine lv_iconst (v := 1) hx hb dX9_period_7 (by decide) ?_
  replace hf := zi_some hf
  obtain ⟨r_12, X_11, hc_11, hf⟩ := hf
  refine k_ai (va_runS (As := [.int a1, .int 0, .int 1]) (rest := []) ⟨hx, hb, hml, hown, hts⟩ (mX9_in l D L ac hL _ a1 0 1 _ _ hc_11) (va_cwS 3 hts gX9_period_X9_in rfl rfl rfl (by decide +kernel) ⟨Nat.le_of_ble_eq_true rfl, Nat.le_of_ble_eq_true rfl⟩) (k_ps hK hN hQ_10 _) rfl rfl hl.1 rfl (lv_room (Nat.le_of_ble_eq_true rfl)) dX9_period_8 ⟨Nat.le_of_ble_eq_true rfl, Nat.le_of_ble_eq_true rfl⟩) hA hQ_10 (fun H_13 locs_13 hO_13 => ?_)
  clear hQ_10
  refine lv_if_ne (tgt := 17) hx hb dX9_period_11 (by decide) (fun c_14 => ?_) (fun c_14 => ?_)
  · rw [if_neg c_14] at hf
    refine lv_aload_n hx hb dX9_period_17 rfl (lv_at hl 0 rfl) ?_
    replace hf := zv_some hf
    obtain ⟨X_15, hc_15, hf⟩ := hf
    refine k_av (va_runV (As := []) (rest := []) ⟨hx, hb, hml, hown, hts⟩ (mX9_laysGrundies l D L ac hL _  _ hc_15) (cwV 0 hts gX9_period_X9_laysGrundies rfl rfl rfl (by decide +kernel) ⟨Nat.le_of_ble_eq_true rfl, Nat.le_of_ble_eq_true rfl⟩) (k_pv (j := 15) hK hN hO_13 (by decide) rfl rfl _) rfl rfl hl.1 rfl (lv_room (Nat.le_of_ble_eq_true rfl)) dX9_period_18 ⟨Nat.le_of_ble_eq_true rfl, Nat.le_of_ble_eq_true rfl⟩) hA hO_13 (fun H_16 locs_16 hO_16 => ?_)
    clear hO_13
    refine lv_iconst (v := 1) hx hb dX9_period_21 (by decide) ?_
    refine lv_istore_n (lv' := [(2, .int 1), (0, .ref (L 15)), (1, .int a1)]) hx hb dX9_period_22 rfl hl (by decide) rfl (fun ls_17 hl_17 => ?_)
    clear hl
    exact wX9_period_23 hL F  fuel _ _ _  _ _ _ hO_16 (lv_sub hl_17 [1, 2, 0] rfl) hf
  · rw [if_pos c_14] at hf
    subst c_14
    refine lv_bipush (v := (-2)) hx hb dX9_period_14 (by decide) ?_
    obtain ⟨rfl, rfl⟩ := Prod.mk.inj (Option.some.inj hf)
    exact e_i hx hb hr hK hN hO_13 hlocks dX9_period_16
def fX9_moveAt_4   : Nat → Int32 → Int32 → Int32 → Int32 → XM → Option (Int32 × XM)
  | 0, _, _, _, _, _ => none
  | n + 1, x0, x1, x2, x3, X => if 0 < x2 then zl (x2 - ((o_shr x0 x3) &&& 1)) (fun v_2 => fX9_moveAt_4 n x0 x1 v_2 (x3 + 1) X) else if ((o_shr x0 x3) &&& 1) = 0 then zl (x2 - ((o_shr x0 x3) &&& 1)) (fun v_6 => fX9_moveAt_4 n x0 x1 v_6 (x3 + 1) X) else some (x3, X)
set_option maxHeartbeats 4000000 in
set_option maxRecDepth 100000 in
theorem wX9_moveAt_4 {p : Program} {l : Launch} {e : Env} {s : State} {m : MethodId} {args : Array Value} {below : List Frame} {meth : Method} {c : Code} {D : va_G} {L : Nat → Nat} {ac : Nat → ClassId} {r0 : Int32} {X0 : XM} (hL : LL L) (F : Fx p s m args meth c cX9_moveAt 4 (some .int) wsX9_moveAt yX9_moveAt.cls D ac) : ∀ (n : Nat) (x0 : Int32) (x1 : Int32) (x2 : Int32) (x3 : Int32) (X : XM) (H : Heap) (locs : List Loc) (ls : Array Slot), Oh D L ac X (fr L) s.heap H locs → lv_has ls 4 [(0, .int x0), (1, .int x1), (2, .int x2), (3, .int x3)] → fX9_moveAt_4 n x0 x1 x2 x3 X = some (r0, X0) → W p l e (headSpec wsX9_moveAt ({ frames := 0, cells := 0, slots := 0, locals := 0 })).room s m args below meth c H locs 0 0 (MQ below (va_Qi (fun (r : Int32) (Y : XM) => r = r0 ∧ Y = X0) (fun (Y : XM) t => St D L ac Y t) (fr L)) args s 0 0 (fr L)) (F0 m 4 ls []) := by
  obtain ⟨hx, hb, hr, hts, hown, hlocks, hml, hK, hN⟩ := id F
  have hA : ∀ q, fr L q → fr L q := fun q h => h
  intro n
  induction n with
  | zero => intro x0 x1 x2 x3 X H locs ls hO hl hf; simp [fX9_moveAt_4] at hf
  | succ n ih =>
    intro x0 x1 x2 x3 X H locs ls hO hl hf
    rw [fX9_moveAt_4] at hf
    refine lv_iload_n hx hb dX9_moveAt_4 rfl (lv_at hl 2 rfl) ?_
    refine lv_if_gt (tgt := 16) hx hb dX9_moveAt_5 (by decide) (fun c_1 => ?_) (fun c_1 => ?_)
    · rw [if_pos c_1] at hf
      refine lv_iload_n hx hb dX9_moveAt_16 rfl (lv_at hl 2 rfl) ?_
      refine lv_iload_n hx hb dX9_moveAt_17 rfl (lv_at hl 0 rfl) ?_
      refine lv_iload_n hx hb dX9_moveAt_18 rfl (lv_at hl 3 rfl) ?_
      refine lv_ishr hx hb dX9_moveAt_19 ?_
      refine lv_iconst (v := 1) hx hb dX9_moveAt_20 (by decide) ?_
      refine lv_iand hx hb dX9_moveAt_21 ?_
      refine lv_isub hx hb dX9_moveAt_22 ?_
      replace hf := zl_some hf
      obtain ⟨v_2, hv_2, hf⟩ := hf
      refine lv_tope hv_2 ?_
      refine lv_istore_n (lv' := [(2, .int v_2), (0, .int x0), (1, .int x1), (3, .int x3)]) hx hb dX9_moveAt_23 rfl hl (by decide) rfl (fun ls_3 hl_3 => ?_)
      clear hl
      refine lv_iinc (v := x3 + 1) (lv' := [(3, .int (x3 + 1)), (2, .int v_2), (0, .int x0), (1, .int x1)]) hx hb dX9_moveAt_24 hl_3 (k := 3) rfl rfl (by decide) rfl (fun ls_4 hl_4 => ?_)
      clear hl_3
      refine lv_goto (tgt := 4) hx hb dX9_moveAt_27 (by decide) ?_
      exact ih _ _ _ _ _  _ _ _ hO (lv_sub hl_4 [2, 3, 1, 0] rfl) hf
    · rw [if_neg c_1] at hf
      refine lv_iload_n hx hb dX9_moveAt_8 rfl (lv_at hl 0 rfl) ?_
      refine lv_iload_n hx hb dX9_moveAt_9 rfl (lv_at hl 3 rfl) ?_
      refine lv_ishr hx hb dX9_moveAt_10 ?_
      refine lv_iconst (v := 1) hx hb dX9_moveAt_11 (by decide) ?_
      refine lv_iand hx hb dX9_moveAt_12 ?_
      refine lv_if_ne (tgt := 30) hx hb dX9_moveAt_13 (by decide) (fun c_5 => ?_) (fun c_5 => ?_)
      · rw [if_neg c_5] at hf
        refine lv_iload_n hx hb dX9_moveAt_30 rfl (lv_at hl 3 rfl) ?_
        obtain ⟨rfl, rfl⟩ := Prod.mk.inj (Option.some.inj hf)
        exact e_i hx hb hr hK hN hO hlocks dX9_moveAt_31
      · rw [if_pos c_5] at hf
        refine lv_iload_n hx hb dX9_moveAt_16 rfl (lv_at hl 2 rfl) ?_
        refine lv_iload_n hx hb dX9_moveAt_17 rfl (lv_at hl 0 rfl) ?_
        refine lv_iload_n hx hb dX9_moveAt_18 rfl (lv_at hl 3 rfl) ?_
        refine lv_ishr hx hb dX9_moveAt_19 ?_
        refine lv_iconst (v := 1) hx hb dX9_moveAt_20 (by decide) ?_
        refine lv_iand hx hb dX9_moveAt_21 ?_
        refine lv_isub hx hb dX9_moveAt_22 ?_
        replace hf := zl_some hf
        obtain ⟨v_6, hv_6, hf⟩ := hf
        refine lv_tope hv_6 ?_
        refine lv_istore_n (lv' := [(2, .int v_6), (0, .int x0), (1, .int x1), (3, .int x3)]) hx hb dX9_moveAt_23 rfl hl (by decide) rfl (fun ls_7 hl_7 => ?_)
        clear hl
        refine lv_iinc (v := x3 + 1) (lv' := [(3, .int (x3 + 1)), (2, .int v_6), (0, .int x0), (1, .int x1)]) hx hb dX9_moveAt_24 hl_7 (k := 3) rfl rfl (by decide) rfl (fun ls_8 hl_8 => ?_)
        clear hl_7
        refine lv_goto (tgt := 4) hx hb dX9_moveAt_27 (by decide) ?_
        exact ih _ _ _ _ _  _ _ _ hO (lv_sub hl_8 [2, 3, 1, 0] rfl) hf
def fX9_moveAt  (a1 : Int32) (a2 : Int32) (X : XM) : Option (Int32 × XM) := fX9_moveAt_4 fuel a1 a2 a2 0 X
set_option maxHeartbeats 4000000 in
set_option maxRecDepth 100000 in
theorem mX9_moveAt (l : Launch) (D : va_G) (L : Nat → Nat) (ac : Nat → ClassId) (hL : LL L) (X : XM) (a1 : Int32) (a2 : Int32) (r0 : Int32) (X0 : XM) (hf : fX9_moveAt a1 a2 X = some (r0, X0)) : Ci l yX9_moveAt wsX9_moveAt ({ frames := 0, cells := 0, slots := 0, locals := 0 }) D L ac X [.int a1, .int a2] r0 X0 := by
  refine Met.ofK (cc := cX9_moveAt) (maxL := 4) (ret := (some .int)) (lv := [(0, .int a1), (1, .int a2)]) (by decide +kernel) rfl (Nat.le_of_ble_eq_true rfl) rfl ?_
  intro p e s m below meth c F hO ls hl
  obtain ⟨hx, hb, hr, hts, hown, hlocks, hml, hK, hN⟩ := id F
  have hA : ∀ q, fr L q → fr L q := fun q h => h
  unfold fX9_moveAt at hf
  refine lv_iload_n hx hb dX9_moveAt_0 rfl (lv_at hl 1 rfl) ?_
  refine lv_istore_n (lv' := [(2, .int a2), (0, .int a1), (1, .int a2)]) hx hb dX9_moveAt_1 rfl hl (by decide) rfl (fun ls_9 hl_9 => ?_)
  clear hl
  refine lv_iconst (v := 0) hx hb dX9_moveAt_2 (by decide) ?_
  refine lv_istore_n (lv' := [(3, .int 0), (2, .int a2), (0, .int a1), (1, .int a2)]) hx hb dX9_moveAt_3 rfl hl_9 (by decide) rfl (fun ls_10 hl_10 => ?_)
  clear hl_9
  exact wX9_moveAt_4 hL F  fuel _ _ _ _ _  _ _ _ hO (lv_sub hl_10 [2, 3, 1, 0] rfl) hf
def fX9_ones_4   : Nat → Int32 → Int32 → Int32 → XM → Option (Int32 × XM)
  | 0, _, _, _, _ => none
  | n + 1, x0, x1, x2, X => if 21 ≤ x2 then some (x1, X) else zl (x1 + ((o_shr x0 x2) &&& 1)) (fun v_2 => fX9_ones_4 n x0 v_2 (x2 + 1) X)
set_option maxHeartbeats 4000000 in
set_option maxRecDepth 100000 in
theorem wX9_ones_4 {p : Program} {l : Launch} {e : Env} {s : State} {m : MethodId} {args : Array Value} {below : List Frame} {meth : Method} {c : Code} {D : va_G} {L : Nat → Nat} {ac : Nat → ClassId} {r0 : Int32} {X0 : XM} (hL : LL L) (F : Fx p s m args meth c cX9_ones 3 (some .int) wsX9_ones yX9_ones.cls D ac) : ∀ (n : Nat) (x0 : Int32) (x1 : Int32) (x2 : Int32) (X : XM) (H : Heap) (locs : List Loc) (ls : Array Slot), Oh D L ac X (fr L) s.heap H locs → lv_has ls 3 [(0, .int x0), (1, .int x1), (2, .int x2)] → fX9_ones_4 n x0 x1 x2 X = some (r0, X0) → W p l e (headSpec wsX9_ones ({ frames := 0, cells := 0, slots := 0, locals := 0 })).room s m args below meth c H locs 0 0 (MQ below (va_Qi (fun (r : Int32) (Y : XM) => r = r0 ∧ Y = X0) (fun (Y : XM) t => St D L ac Y t) (fr L)) args s 0 0 (fr L)) (F0 m 4 ls []) := by
  obtain ⟨hx, hb, hr, hts, hown, hlocks, hml, hK, hN⟩ := id F
  have hA : ∀ q, fr L q → fr L q := fun q h => h
  intro n
  induction n with
  | zero => intro x0 x1 x2 X H locs ls hO hl hf; simp [fX9_ones_4] at hf
  | succ n ih =>
    intro x0 x1 x2 X H locs ls hO hl hf
    rw [fX9_ones_4] at hf
    refine lv_iload_n hx hb dX9_ones_4 rfl (lv_at hl 2 rfl) ?_
    refine lv_bipush (v := 21) hx hb dX9_ones_5 (by decide) ?_
    refine lv_icmp_ge (tgt := 24) hx hb dX9_ones_7 (by decide) (fun c_1 => ?_) (fun c_1 => ?_)
    · rw [if_pos c_1] at hf
      refine lv_iload_n hx hb dX9_ones_24 rfl (lv_at hl 1 rfl) ?_
      obtain ⟨rfl, rfl⟩ := Prod.mk.inj (Option.some.inj hf)
      exact e_i hx hb hr hK hN hO hlocks dX9_ones_25
    · rw [if_neg c_1] at hf
      refine lv_iload_n hx hb dX9_ones_10 rfl (lv_at hl 1 rfl) ?_
      refine lv_iload_n hx hb dX9_ones_11 rfl (lv_at hl 0 rfl) ?_
      refine lv_iload_n hx hb dX9_ones_12 rfl (lv_at hl 2 rfl) ?_
      refine lv_ishr hx hb dX9_ones_13 ?_
      refine lv_iconst (v := 1) hx hb dX9_ones_14 (by decide) ?_
      refine lv_iand hx hb dX9_ones_15 ?_
      refine lv_iadd hx hb dX9_ones_16 ?_
      replace hf := zl_some hf
      obtain ⟨v_2, hv_2, hf⟩ := hf
      refine lv_tope hv_2 ?_
      refine lv_istore_n (lv' := [(1, .int v_2), (0, .int x0), (2, .int x2)]) hx hb dX9_ones_17 rfl hl (by decide) rfl (fun ls_3 hl_3 => ?_)
      clear hl
      refine lv_iinc (v := x2 + 1) (lv' := [(2, .int (x2 + 1)), (1, .int v_2), (0, .int x0)]) hx hb dX9_ones_18 hl_3 (k := 2) rfl rfl (by decide) rfl (fun ls_4 hl_4 => ?_)
      clear hl_3
      refine lv_goto (tgt := 4) hx hb dX9_ones_21 (by decide) ?_
      exact ih _ _ _ _  _ _ _ hO (lv_sub hl_4 [2, 1, 0] rfl) hf
def fX9_ones  (a1 : Int32) (X : XM) : Option (Int32 × XM) := fX9_ones_4 fuel a1 0 0 X
set_option maxHeartbeats 4000000 in
set_option maxRecDepth 100000 in
theorem mX9_ones (l : Launch) (D : va_G) (L : Nat → Nat) (ac : Nat → ClassId) (hL : LL L) (X : XM) (a1 : Int32) (r0 : Int32) (X0 : XM) (hf : fX9_ones a1 X = some (r0, X0)) : Ci l yX9_ones wsX9_ones ({ frames := 0, cells := 0, slots := 0, locals := 0 }) D L ac X [.int a1] r0 X0 := by
  refine Met.ofK (cc := cX9_ones) (maxL := 3) (ret := (some .int)) (lv := [(0, .int a1)]) (by decide +kernel) rfl (Nat.le_of_ble_eq_true rfl) rfl ?_
  intro p e s m below meth c F hO ls hl
  obtain ⟨hx, hb, hr, hts, hown, hlocks, hml, hK, hN⟩ := id F
  have hA : ∀ q, fr L q → fr L q := fun q h => h
  unfold fX9_ones at hf
  refine lv_iconst (v := 0) hx hb dX9_ones_0 (by decide) ?_
  refine lv_istore_n (lv' := [(1, .int 0), (0, .int a1)]) hx hb dX9_ones_1 rfl hl (by decide) rfl (fun ls_5 hl_5 => ?_)
  clear hl
  refine lv_iconst (v := 0) hx hb dX9_ones_2 (by decide) ?_
  refine lv_istore_n (lv' := [(2, .int 0), (1, .int 0), (0, .int a1)]) hx hb dX9_ones_3 rfl hl_5 (by decide) rfl (fun ls_6 hl_6 => ?_)
  clear hl_5
  exact wX9_ones_4 hL F  fuel _ _ _ _  _ _ _ hO (lv_sub hl_6 [2, 1, 0] rfl) hf
theorem in_X9_put_X9 : ∀ w ∈ u_ws RX9 TX9 16, w ∈ wsX9_put := by decide +kernel
theorem lk_X9_put_c196 : Cond.constantLong RX9 196 (255) ∈ wsX9_put := by decide +kernel
theorem lk_X9_put_f176 : Cond.fieldLink RX9 176 "PoisonPilesModel" "length" "I" ∈ wsX9_put := by decide +kernel
theorem lk_X9_put_f26 : Cond.fieldLink RX9 26 "PoisonPilesModel" "pad" "[I" ∈ wsX9_put := by decide +kernel
theorem lk_X9_put_f41 : Cond.fieldLink RX9 41 "PoisonPilesModel" "thrown" "I" ∈ wsX9_put := by decide +kernel
def fX9_put_108   : Nat → Int64 → Int32 → Int64 → Int32 → Int32 → XM → Option (Int32 × XM)
  | 0, _, _, _, _, _, _ => none
  | n + 1, x1, x3, x4, x6, x7, X => if x3 ≤ x7 then zl (xup X 22 2 ((X 22 2) + x3)) (fun X_2 => some (X_2 22 2, X_2)) else zd ((X 22 2) + x7) 80 (zl (xup X 28 (Int32.toNatClampNeg ((X 22 2) + x7)) (Int64.toInt32 ((o_lus x1 (8 * ((x3 - 1) - x7))) &&& (255 : Int64)))) (fun X_5 => fX9_put_108 n x1 x3 x4 x6 (x7 + 1) X_5))
set_option maxHeartbeats 4000000 in
set_option maxRecDepth 100000 in
theorem wX9_put_108 {p : Program} {l : Launch} {e : Env} {s : State} {m : MethodId} {args : Array Value} {below : List Frame} {meth : Method} {c : Code} {D : va_G} {L : Nat → Nat} {ac : Nat → ClassId} {r0 : Int32} {X0 : XM} (hL : LL L) (F : Fx p s m args meth c cX9_put 8 (some .int) wsX9_put yX9_put.cls D ac) : ∀ (n : Nat) (x1 : Int64) (x3 : Int32) (x4 : Int64) (x6 : Int32) (x7 : Int32) (X : XM) (H : Heap) (locs : List Loc) (ls : Array Slot), Oh D L ac X (fr L) s.heap H locs → lv_has ls 8 [(0, .ref (L 15)), (1, .long x1), (3, .int x3), (4, .long x4), (6, .int x6), (7, .int x7)] → fX9_put_108 n x1 x3 x4 x6 x7 X = some (r0, X0) → W p l e (headSpec wsX9_put ({ frames := 1, cells := 0, slots := 0, locals := 22 })).room s m args below meth c H locs 0 0 (MQ below (va_Qi (fun (r : Int32) (Y : XM) => r = r0 ∧ Y = X0) (fun (Y : XM) t => St D L ac Y t) (fr L)) args s 0 0 (fr L)) (F0 m 108 ls []) := by
  obtain ⟨hx, hb, hr, hts, hown, hlocks, hml, hK, hN⟩ := id F
  have hA : ∀ q, fr L q → fr L q := fun q h => h
  intro n
  induction n with
  | zero => intro x1 x3 x4 x6 x7 X H locs ls hO hl hf; simp [fX9_put_108] at hf
  | succ n ih =>
    intro x1 x3 x4 x6 x7 X H locs ls hO hl hf
    rw [fX9_put_108] at hf
    refine lv_iload hx hb dX9_put_108 (lv_at hl 5 rfl) ?_
    refine lv_iload_n hx hb dX9_put_110 rfl (lv_at hl 2 rfl) ?_
    refine lv_icmp_ge (tgt := 148) hx hb dX9_put_111 (by decide) (fun c_1 => ?_) (fun c_1 => ?_)
    · rw [if_pos c_1] at hf
      refine lv_aload_n hx hb dX9_put_148 rfl (lv_at hl 0 rfl) ?_
      refine lv_dup hx hb dX9_put_149 rfl ?_
      refine k_get (k := 8) (v := .int (X 22 2)) hx hb hts in_X9_put_X9 hown hK hO (by decide) rfl rfl (by decide) lk_X9_put_f176 rfl dX9_put_150 ?_
      refine lv_iload_n hx hb dX9_put_153 rfl (lv_at hl 2 rfl) ?_
      refine lv_iadd hx hb dX9_put_154 ?_
      refine k_put (ty := .int) (k := 8) (r := 22) (k' := 2) hx hb tyX9 tyX9_ok nmX9 hts in_X9_put_X9 hown hK  hL hA hO (by decide) rfl (by omega) (fun Y => rfl) (by simp [xup]) rfl (by decide) lk_X9_put_f176 rfl (by decide +kernel) rfl rfl (Nat.le_of_ble_eq_true rfl) dX9_put_155 (fun H_3 locs_3 hO_3 => ?_)
      replace hf := zl_some hf
      obtain ⟨X_2, hX_2, hf⟩ := hf
      have hQ_3 := zo_eq hX_2 hO_3
      clear hO_3 hO
      refine lv_aload_n hx hb dX9_put_158 rfl (lv_at hl 0 rfl) ?_
      refine k_get (k := 8) (v := .int (X_2 22 2)) hx hb hts in_X9_put_X9 hown hK hQ_3 (by decide) rfl rfl (by decide) lk_X9_put_f176 rfl dX9_put_159 ?_
      obtain ⟨rfl, rfl⟩ := Prod.mk.inj (Option.some.inj hf)
      exact e_i hx hb hr hK hN hQ_3 hlocks dX9_put_162
    · rw [if_neg c_1] at hf
      refine lv_aload_n hx hb dX9_put_114 rfl (lv_at hl 0 rfl) ?_
      refine k_get (k := 7) (v := .ref (L 21)) hx hb hts in_X9_put_X9 hown hK hO (by decide) rfl rfl (by decide) lk_X9_put_f26 rfl dX9_put_115 ?_
      refine lv_aload_n hx hb dX9_put_118 rfl (lv_at hl 0 rfl) ?_
      refine k_get (k := 8) (v := .int (X 22 2)) hx hb hts in_X9_put_X9 hown hK hO (by decide) rfl rfl (by decide) lk_X9_put_f176 rfl dX9_put_119 ?_
      refine lv_iload hx hb dX9_put_122 (lv_at hl 5 rfl) ?_
      refine lv_iadd hx hb dX9_put_124 ?_
      refine lv_lload_n hx hb dX9_put_125 rfl (lv_at hl 1 rfl) ?_
      refine lv_bipush (v := 8) hx hb dX9_put_126 (by decide) ?_
      refine lv_iload_n hx hb dX9_put_128 rfl (lv_at hl 2 rfl) ?_
      refine lv_iconst (v := 1) hx hb dX9_put_129 (by decide) ?_
      refine lv_isub hx hb dX9_put_130 ?_
      refine lv_iload hx hb dX9_put_131 (lv_at hl 5 rfl) ?_
      refine lv_isub hx hb dX9_put_133 ?_
      refine lv_imul hx hb dX9_put_134 ?_
      refine lv_lushr hx hb dX9_put_135 rfl ?_
      refine lv_ldc2 (v := 255) hx hb hown (hts _ lk_X9_put_c196) dX9_put_136 ?_
      refine lv_land hx hb dX9_put_139 ?_
      refine lv_l2i hx hb dX9_put_140 rfl ?_
      replace hf := zd_some hf
      obtain ⟨hi_4, hf⟩ := hf
      refine k_iast hx hb hK hL hA hO (by decide) (by decide) rfl (fun _ => rfl) hi_4 dX9_put_141 (fun H_6 locs_6 hO_6 => ?_)
      replace hf := zl_some hf
      obtain ⟨X_5, hX_5, hf⟩ := hf
      have hQ_6 := zo_eq hX_5 hO_6
      clear hO_6 hO
      refine lv_iinc (v := x7 + 1) (lv' := [(7, .int (x7 + 1)), (0, .ref (L 15)), (1, .long x1), (3, .int x3), (4, .long x4), (6, .int x6)]) hx hb dX9_put_142 hl (k := 5) rfl rfl (by decide) rfl (fun ls_7 hl_7 => ?_)
      clear hl
      refine lv_goto (tgt := 108) hx hb dX9_put_145 (by decide) ?_
      exact ih _ _ _ _ _ _  _ _ _ hQ_6 (lv_sub hl_7 [1, 2, 3, 4, 5, 0] rfl) hf
def fX9_put_13   : Nat → Int64 → Int32 → Int64 → Int32 → XM → Option (Int32 × XM)
  | 0, _, _, _, _, _ => none
  | n + 1, x1, x3, x4, x6, X => if 8 ≤ x3 then if x3 = 0 then some ((-2), X) else if x6 = 0 then some ((-2), X) else if (lg_cmp x4 (0 : Int64)) = 0 then if ((X 22 2) + x3) ≤ 80 then fX9_put_108 fuel x1 x3 x4 x6 0 X else some ((-4), X) else some ((-2), X) else if (lg_cmp (x4 &&& (255 : Int64)) (0 : Int64)) = 0 then if x3 = 0 then some ((-2), X) else if x6 = 0 then some ((-2), X) else if (lg_cmp x4 (0 : Int64)) = 0 then if ((X 22 2) + x3) ≤ 80 then fX9_put_108 fuel x1 x3 x4 x6 0 X else some ((-4), X) else some ((-2), X) else if x6 = 0 then zl (o_lus x4 8) (fun v_22 => fX9_put_13 n x1 (x3 + 1) v_22 0 X) else zi (fX9_in (Int64.toInt32 (x4 &&& (255 : Int64))) 33 126 X) (fun r_26 X_25 => if r_26 = 0 then zl (o_lus x4 8) (fun v_30 => fX9_put_13 n x1 (x3 + 1) v_30 0 X_25) else zl (o_lus x4 8) (fun v_34 => fX9_put_13 n x1 (x3 + 1) v_34 1 X_25))
set_option maxHeartbeats 4000000 in
set_option maxRecDepth 100000 in
theorem wX9_put_13 {p : Program} {l : Launch} {e : Env} {s : State} {m : MethodId} {args : Array Value} {below : List Frame} {meth : Method} {c : Code} {D : va_G} {L : Nat → Nat} {ac : Nat → ClassId} {r0 : Int32} {X0 : XM} (hL : LL L) (F : Fx p s m args meth c cX9_put 8 (some .int) wsX9_put yX9_put.cls D ac) : ∀ (n : Nat) (x1 : Int64) (x3 : Int32) (x4 : Int64) (x6 : Int32) (X : XM) (H : Heap) (locs : List Loc) (ls : Array Slot), Oh D L ac X (fr L) s.heap H locs → lv_has ls 8 [(0, .ref (L 15)), (1, .long x1), (3, .int x3), (4, .long x4), (6, .int x6)] → fX9_put_13 n x1 x3 x4 x6 X = some (r0, X0) → W p l e (headSpec wsX9_put ({ frames := 1, cells := 0, slots := 0, locals := 22 })).room s m args below meth c H locs 0 0 (MQ below (va_Qi (fun (r : Int32) (Y : XM) => r = r0 ∧ Y = X0) (fun (Y : XM) t => St D L ac Y t) (fr L)) args s 0 0 (fr L)) (F0 m 13 ls []) := by
  obtain ⟨hx, hb, hr, hts, hown, hlocks, hml, hK, hN⟩ := id F
  have hA : ∀ q, fr L q → fr L q := fun q h => h
  intro n
  induction n with
  | zero => intro x1 x3 x4 x6 X H locs ls hO hl hf; simp [fX9_put_13] at hf
  | succ n ih =>
    intro x1 x3 x4 x6 X H locs ls hO hl hf
    rw [fX9_put_13] at hf
    refine lv_iload_n hx hb dX9_put_13 rfl (lv_at hl 2 rfl) ?_
    refine lv_bipush (v := 8) hx hb dX9_put_14 (by decide) ?_
    refine lv_icmp_ge (tgt := 72) hx hb dX9_put_16 (by decide) (fun c_8 => ?_) (fun c_8 => ?_)
    · rw [if_pos c_8] at hf
      refine lv_iload_n hx hb dX9_put_72 rfl (lv_at hl 2 rfl) ?_
      refine lv_if_eq (tgt := 88) hx hb dX9_put_73 (by decide) (fun c_9 => ?_) (fun c_9 => ?_)
      · rw [if_pos c_9] at hf
        subst c_9
        refine lv_bipush (v := (-2)) hx hb dX9_put_88 (by decide) ?_
        obtain ⟨rfl, rfl⟩ := Prod.mk.inj (Option.some.inj hf)
        exact e_i hx hb hr hK hN hO hlocks dX9_put_90
      · rw [if_neg c_9] at hf
        refine lv_iload hx hb dX9_put_76 (lv_at hl 4 rfl) ?_
        refine lv_if_eq (tgt := 88) hx hb dX9_put_78 (by decide) (fun c_10 => ?_) (fun c_10 => ?_)
        · rw [if_pos c_10] at hf
          subst c_10
          refine lv_bipush (v := (-2)) hx hb dX9_put_88 (by decide) ?_
          obtain ⟨rfl, rfl⟩ := Prod.mk.inj (Option.some.inj hf)
          exact e_i hx hb hr hK hN hO hlocks dX9_put_90
        · rw [if_neg c_10] at hf
          refine lv_lload hx hb dX9_put_81 (lv_at hl 3 rfl) ?_
          refine lv_lconst (v := 0) hx hb dX9_put_83 (by decide) ?_
          refine W.lcmp hx hb dX9_put_84 ?_
          refine lv_if_eq (tgt := 91) hx hb dX9_put_85 (by decide) (fun c_11 => ?_) (fun c_11 => ?_)
          · rw [if_pos c_11] at hf
            refine lv_aload_n hx hb dX9_put_91 rfl (lv_at hl 0 rfl) ?_
            refine k_get (k := 8) (v := .int (X 22 2)) hx hb hts in_X9_put_X9 hown hK hO (by decide) rfl rfl (by decide) lk_X9_put_f176 rfl dX9_put_92 ?_
            refine lv_iload_n hx hb dX9_put_95 rfl (lv_at hl 2 rfl) ?_
            refine lv_iadd hx hb dX9_put_96 ?_
            refine lv_bipush (v := 80) hx hb dX9_put_97 (by decide) ?_
            refine lv_icmp_le (tgt := 105) hx hb dX9_put_99 (by decide) (fun c_12 => ?_) (fun c_12 => ?_)
            · rw [if_pos c_12] at hf
              refine lv_iconst (v := 0) hx hb dX9_put_105 (by decide) ?_
              refine lv_istore (lv' := [(7, .int 0), (0, .ref (L 15)), (1, .long x1), (3, .int x3), (4, .long x4), (6, .int x6)]) hx hb dX9_put_106 hl (by decide) rfl (fun ls_13 hl_13 => ?_)
              clear hl
              exact wX9_put_108 hL F  fuel _ _ _ _ _ _  _ _ _ hO (lv_sub hl_13 [1, 2, 3, 4, 5, 0] rfl) hf
            · rw [if_neg c_12] at hf
              refine lv_bipush (v := (-4)) hx hb dX9_put_102 (by decide) ?_
              obtain ⟨rfl, rfl⟩ := Prod.mk.inj (Option.some.inj hf)
              exact e_i hx hb hr hK hN hO hlocks dX9_put_104
          · rw [if_neg c_11] at hf
            refine lv_bipush (v := (-2)) hx hb dX9_put_88 (by decide) ?_
            obtain ⟨rfl, rfl⟩ := Prod.mk.inj (Option.some.inj hf)
            exact e_i hx hb hr hK hN hO hlocks dX9_put_90
    · rw [if_neg c_8] at hf
      refine lv_lload hx hb dX9_put_19 (lv_at hl 3 rfl) ?_
      refine lv_ldc2 (v := 255) hx hb hown (hts _ lk_X9_put_c196) dX9_put_21 ?_
      refine lv_land hx hb dX9_put_24 ?_
      refine lv_lconst (v := 0) hx hb dX9_put_25 (by decide) ?_
      refine W.lcmp hx hb dX9_put_26 ?_
      refine lv_if_eq (tgt := 72) hx hb dX9_put_27 (by decide) (fun c_14 => ?_) (fun c_14 => ?_)
      · rw [if_pos c_14] at hf
        refine lv_iload_n hx hb dX9_put_72 rfl (lv_at hl 2 rfl) ?_
        refine lv_if_eq (tgt := 88) hx hb dX9_put_73 (by decide) (fun c_15 => ?_) (fun c_15 => ?_)
        · rw [if_pos c_15] at hf
          subst c_15
          refine lv_bipush (v := (-2)) hx hb dX9_put_88 (by decide) ?_
          obtain ⟨rfl, rfl⟩ := Prod.mk.inj (Option.some.inj hf)
          exact e_i hx hb hr hK hN hO hlocks dX9_put_90
        · rw [if_neg c_15] at hf
          refine lv_iload hx hb dX9_put_76 (lv_at hl 4 rfl) ?_
          refine lv_if_eq (tgt := 88) hx hb dX9_put_78 (by decide) (fun c_16 => ?_) (fun c_16 => ?_)
          · rw [if_pos c_16] at hf
            subst c_16
            refine lv_bipush (v := (-2)) hx hb dX9_put_88 (by decide) ?_
            obtain ⟨rfl, rfl⟩ := Prod.mk.inj (Option.some.inj hf)
            exact e_i hx hb hr hK hN hO hlocks dX9_put_90
          · rw [if_neg c_16] at hf
            refine lv_lload hx hb dX9_put_81 (lv_at hl 3 rfl) ?_
            refine lv_lconst (v := 0) hx hb dX9_put_83 (by decide) ?_
            refine W.lcmp hx hb dX9_put_84 ?_
            refine lv_if_eq (tgt := 91) hx hb dX9_put_85 (by decide) (fun c_17 => ?_) (fun c_17 => ?_)
            · rw [if_pos c_17] at hf
              refine lv_aload_n hx hb dX9_put_91 rfl (lv_at hl 0 rfl) ?_
              refine k_get (k := 8) (v := .int (X 22 2)) hx hb hts in_X9_put_X9 hown hK hO (by decide) rfl rfl (by decide) lk_X9_put_f176 rfl dX9_put_92 ?_
              refine lv_iload_n hx hb dX9_put_95 rfl (lv_at hl 2 rfl) ?_
              refine lv_iadd hx hb dX9_put_96 ?_
              refine lv_bipush (v := 80) hx hb dX9_put_97 (by decide) ?_
              refine lv_icmp_le (tgt := 105) hx hb dX9_put_99 (by decide) (fun c_18 => ?_) (fun c_18 => ?_)
              · rw [if_pos c_18] at hf
                refine lv_iconst (v := 0) hx hb dX9_put_105 (by decide) ?_
                refine lv_istore (lv' := [(7, .int 0), (0, .ref (L 15)), (1, .long x1), (3, .int x3), (4, .long x4), (6, .int x6)]) hx hb dX9_put_106 hl (by decide) rfl (fun ls_19 hl_19 => ?_)
                clear hl
                exact wX9_put_108 hL F  fuel _ _ _ _ _ _  _ _ _ hO (lv_sub hl_19 [1, 2, 3, 4, 5, 0] rfl) hf
              · rw [if_neg c_18] at hf
                refine lv_bipush (v := (-4)) hx hb dX9_put_102 (by decide) ?_
                obtain ⟨rfl, rfl⟩ := Prod.mk.inj (Option.some.inj hf)
                exact e_i hx hb hr hK hN hO hlocks dX9_put_104
            · rw [if_neg c_17] at hf
              refine lv_bipush (v := (-2)) hx hb dX9_put_88 (by decide) ?_
              obtain ⟨rfl, rfl⟩ := Prod.mk.inj (Option.some.inj hf)
              exact e_i hx hb hr hK hN hO hlocks dX9_put_90
      · rw [if_neg c_14] at hf
        refine lv_iload hx hb dX9_put_30 (lv_at hl 4 rfl) ?_
        refine lv_if_eq (tgt := 56) hx hb dX9_put_32 (by decide) (fun c_20 => ?_) (fun c_20 => ?_)
        · rw [if_pos c_20] at hf
          subst c_20
          refine lv_iconst (v := 0) hx hb dX9_put_56 (by decide) ?_
          refine lv_istore (lv' := [(6, .int 0), (0, .ref (L 15)), (1, .long x1), (3, .int x3), (4, .long x4)]) hx hb dX9_put_57 hl (by decide) rfl (fun ls_21 hl_21 => ?_)
          clear hl
          refine lv_lload hx hb dX9_put_59 (lv_at hl_21 4 rfl) ?_
          refine lv_bipush (v := 8) hx hb dX9_put_61 (by decide) ?_
          refine lv_lushr hx hb dX9_put_63 rfl ?_
          replace hf := zl_some hf
          obtain ⟨v_22, hv_22, hf⟩ := hf
          refine lv_topL hv_22 ?_
          refine lv_lstore (lv' := [(4, .long v_22), (6, .int 0), (0, .ref (L 15)), (1, .long x1), (3, .int x3)]) hx hb dX9_put_64 hl_21 (by decide) rfl (fun ls_23 hl_23 => ?_)
          clear hl_21
          refine lv_iinc (v := x3 + 1) (lv' := [(3, .int (x3 + 1)), (4, .long v_22), (6, .int 0), (0, .ref (L 15)), (1, .long x1)]) hx hb dX9_put_66 hl_23 (k := 4) rfl rfl (by decide) rfl (fun ls_24 hl_24 => ?_)
          clear hl_23
          refine lv_goto (tgt := 13) hx hb dX9_put_69 (by decide) ?_
          exact ih _ _ _ _ _  _ _ _ hO (lv_sub hl_24 [3, 4, 0, 1, 2] rfl) hf
        · rw [if_neg c_20] at hf
          refine lv_lload hx hb dX9_put_35 (lv_at hl 3 rfl) ?_
          refine lv_ldc2 (v := 255) hx hb hown (hts _ lk_X9_put_c196) dX9_put_37 ?_
          refine lv_land hx hb dX9_put_40 ?_
          refine lv_l2i hx hb dX9_put_41 rfl ?_
          refine lv_bipush (v := 33) hx hb dX9_put_42 (by decide) ?_
          refine lv_bipush (v := 126) hx hb dX9_put_44 (by decide) ?_
          replace hf := zi_some hf
          obtain ⟨r_26, X_25, hc_25, hf⟩ := hf
          refine k_ai (va_runS (As := [.int (Int64.toInt32 (x4 &&& (255 : Int64))), .int 33, .int 126]) (rest := []) ⟨hx, hb, hml, hown, hts⟩ (mX9_in l D L ac hL _ (Int64.toInt32 (x4 &&& (255 : Int64))) 33 126 _ _ hc_25) (va_cwS 3 hts gX9_put_X9_in rfl rfl rfl (by decide +kernel) ⟨Nat.le_of_ble_eq_true rfl, Nat.le_of_ble_eq_true rfl⟩) (k_ps hK hN hO _) rfl rfl hl.1 rfl (lv_room (Nat.le_of_ble_eq_true rfl)) dX9_put_46 ⟨Nat.le_of_ble_eq_true rfl, Nat.le_of_ble_eq_true rfl⟩) hA hO (fun H_27 locs_27 hO_27 => ?_)
          clear hO
          refine lv_if_eq (tgt := 56) hx hb dX9_put_49 (by decide) (fun c_28 => ?_) (fun c_28 => ?_)
          · rw [if_pos c_28] at hf
            subst c_28
            refine lv_iconst (v := 0) hx hb dX9_put_56 (by decide) ?_
            refine lv_istore (lv' := [(6, .int 0), (0, .ref (L 15)), (1, .long x1), (3, .int x3), (4, .long x4)]) hx hb dX9_put_57 hl (by decide) rfl (fun ls_29 hl_29 => ?_)
            clear hl
            refine lv_lload hx hb dX9_put_59 (lv_at hl_29 4 rfl) ?_
            refine lv_bipush (v := 8) hx hb dX9_put_61 (by decide) ?_
            refine lv_lushr hx hb dX9_put_63 rfl ?_
            replace hf := zl_some hf
            obtain ⟨v_30, hv_30, hf⟩ := hf
            refine lv_topL hv_30 ?_
            refine lv_lstore (lv' := [(4, .long v_30), (6, .int 0), (0, .ref (L 15)), (1, .long x1), (3, .int x3)]) hx hb dX9_put_64 hl_29 (by decide) rfl (fun ls_31 hl_31 => ?_)
            clear hl_29
            refine lv_iinc (v := x3 + 1) (lv' := [(3, .int (x3 + 1)), (4, .long v_30), (6, .int 0), (0, .ref (L 15)), (1, .long x1)]) hx hb dX9_put_66 hl_31 (k := 4) rfl rfl (by decide) rfl (fun ls_32 hl_32 => ?_)
            clear hl_31
            refine lv_goto (tgt := 13) hx hb dX9_put_69 (by decide) ?_
            exact ih _ _ _ _ _  _ _ _ hO_27 (lv_sub hl_32 [3, 4, 0, 1, 2] rfl) hf
          · rw [if_neg c_28] at hf
            refine lv_iconst (v := 1) hx hb dX9_put_52 (by decide) ?_
            refine lv_goto (tgt := 57) hx hb dX9_put_53 (by decide) ?_
            refine lv_istore (lv' := [(6, .int 1), (0, .ref (L 15)), (1, .long x1), (3, .int x3), (4, .long x4)]) hx hb dX9_put_57 hl (by decide) rfl (fun ls_33 hl_33 => ?_)
            clear hl
            refine lv_lload hx hb dX9_put_59 (lv_at hl_33 4 rfl) ?_
            refine lv_bipush (v := 8) hx hb dX9_put_61 (by decide) ?_
            refine lv_lushr hx hb dX9_put_63 rfl ?_
            replace hf := zl_some hf
            obtain ⟨v_34, hv_34, hf⟩ := hf
            refine lv_topL hv_34 ?_
            refine lv_lstore (lv' := [(4, .long v_34), (6, .int 1), (0, .ref (L 15)), (1, .long x1), (3, .int x3)]) hx hb dX9_put_64 hl_33 (by decide) rfl (fun ls_35 hl_35 => ?_)
            clear hl_33
            refine lv_iinc (v := x3 + 1) (lv' := [(3, .int (x3 + 1)), (4, .long v_34), (6, .int 1), (0, .ref (L 15)), (1, .long x1)]) hx hb dX9_put_66 hl_35 (k := 4) rfl rfl (by decide) rfl (fun ls_36 hl_36 => ?_)
            clear hl_35
            refine lv_goto (tgt := 13) hx hb dX9_put_69 (by decide) ?_
            exact ih _ _ _ _ _  _ _ _ hO_27 (lv_sub hl_36 [3, 4, 0, 1, 2] rfl) hf
def fX9_put  (a1 : Int64) (X : XM) : Option (Int32 × XM) := zl (xup X 22 0 0) (fun X_37 => fX9_put_13 fuel a1 0 a1 1 X_37)
set_option maxHeartbeats 4000000 in
set_option maxRecDepth 100000 in
theorem mX9_put (l : Launch) (D : va_G) (L : Nat → Nat) (ac : Nat → ClassId) (hL : LL L) (X : XM) (a1 : Int64) (r0 : Int32) (X0 : XM) (hf : fX9_put a1 X = some (r0, X0)) : Ci l yX9_put wsX9_put ({ frames := 1, cells := 0, slots := 0, locals := 22 }) D L ac X [.ref (L 15), .long a1] r0 X0 := by
  refine Met.ofK (cc := cX9_put) (maxL := 8) (ret := (some .int)) (lv := [(0, .ref (L 15)), (1, .long a1)]) (by decide +kernel) rfl (Nat.le_of_ble_eq_true rfl) rfl ?_
  intro p e s m below meth c F hO ls hl
  obtain ⟨hx, hb, hr, hts, hown, hlocks, hml, hK, hN⟩ := id F
  have hA : ∀ q, fr L q → fr L q := fun q h => h
  unfold fX9_put at hf
  refine lv_aload_n hx hb dX9_put_0 rfl (lv_at hl 0 rfl) ?_
  refine lv_iconst (v := 0) hx hb dX9_put_1 (by decide) ?_
  refine k_put (ty := .int) (k := 0) (r := 22) (k' := 0) hx hb tyX9 tyX9_ok nmX9 hts in_X9_put_X9 hown hK  hL hA hO (by decide) rfl (by omega) (fun Y => rfl) (by simp [xup]) rfl (by decide) lk_X9_put_f41 rfl (by decide +kernel) rfl rfl (Nat.le_of_ble_eq_true rfl) dX9_put_2 (fun H_38 locs_38 hO_38 => ?_)
  replace hf := zl_some hf
  obtain ⟨X_37, hX_37, hf⟩ := hf
  have hQ_38 := zo_eq hX_37 hO_38
  clear hO_38 hO
  refine lv_iconst (v := 0) hx hb dX9_put_5 (by decide) ?_
  refine lv_istore_n (lv' := [(3, .int 0), (0, .ref (L 15)), (1, .long a1)]) hx hb dX9_put_6 rfl hl (by decide) rfl (fun ls_39 hl_39 => ?_)
  clear hl
  refine lv_lload_n hx hb dX9_put_7 rfl (lv_at hl_39 2 rfl) ?_
  refine lv_lstore (lv' := [(4, .long a1), (3, .int 0), (0, .ref (L 15)), (1, .long a1)]) hx hb dX9_put_8 hl_39 (by decide) rfl (fun ls_40 hl_40 => ?_)
  clear hl_39
  refine lv_iconst (v := 1) hx hb dX9_put_10 (by decide) ?_
  refine lv_istore (lv' := [(6, .int 1), (4, .long a1), (3, .int 0), (0, .ref (L 15)), (1, .long a1)]) hx hb dX9_put_11 hl_40 (by decide) rfl (fun ls_41 hl_41 => ?_)
  clear hl_40
  exact wX9_put_13 hL F  fuel _ _ _ _ _  _ _ _ hQ_38 (lv_sub hl_41 [3, 4, 2, 1, 0] rfl) hf
theorem in_X9_wipe_X9 : ∀ w ∈ u_ws RX9 TX9 16, w ∈ wsX9_wipe := by decide +kernel
theorem lk_X9_wipe_f176 : Cond.fieldLink RX9 176 "PoisonPilesModel" "length" "I" ∈ wsX9_wipe := by decide +kernel
theorem lk_X9_wipe_f41 : Cond.fieldLink RX9 41 "PoisonPilesModel" "thrown" "I" ∈ wsX9_wipe := by decide +kernel
def fX9_wipe   (X : XM) : Option (Int32 × XM) := zl (xup X 22 0 0) (fun X_1 => zl (X_1 22 2) (fun v_3 => zl (xup X_1 22 2 0) (fun X_5 => some (v_3, X_5))))
set_option maxHeartbeats 4000000 in
set_option maxRecDepth 100000 in
theorem mX9_wipe (l : Launch) (D : va_G) (L : Nat → Nat) (ac : Nat → ClassId) (hL : LL L) (X : XM)  (r0 : Int32) (X0 : XM) (hf : fX9_wipe  X = some (r0, X0)) : Ci l yX9_wipe wsX9_wipe ({ frames := 0, cells := 0, slots := 0, locals := 0 }) D L ac X [.ref (L 15)] r0 X0 := by
  refine Met.ofK (cc := cX9_wipe) (maxL := 2) (ret := (some .int)) (lv := [(0, .ref (L 15))]) (by decide +kernel) rfl (Nat.le_of_ble_eq_true rfl) rfl ?_
  intro p e s m below meth c F hO ls hl
  obtain ⟨hx, hb, hr, hts, hown, hlocks, hml, hK, hN⟩ := id F
  have hA : ∀ q, fr L q → fr L q := fun q h => h
  unfold fX9_wipe at hf
  refine lv_aload_n hx hb dX9_wipe_0 rfl (lv_at hl 0 rfl) ?_
  refine lv_iconst (v := 0) hx hb dX9_wipe_1 (by decide) ?_
  refine k_put (ty := .int) (k := 0) (r := 22) (k' := 0) hx hb tyX9 tyX9_ok nmX9 hts in_X9_wipe_X9 hown hK  hL hA hO (by decide) rfl (by omega) (fun Y => rfl) (by simp [xup]) rfl (by decide) lk_X9_wipe_f41 rfl (by decide +kernel) rfl rfl (Nat.le_of_ble_eq_true rfl) dX9_wipe_2 (fun H_2 locs_2 hO_2 => ?_)
  replace hf := zl_some hf
  obtain ⟨X_1, hX_1, hf⟩ := hf
  have hQ_2 := zo_eq hX_1 hO_2
  clear hO_2 hO
  refine lv_aload_n hx hb dX9_wipe_5 rfl (lv_at hl 0 rfl) ?_
  refine k_get (k := 8) (v := .int (X_1 22 2)) hx hb hts in_X9_wipe_X9 hown hK hQ_2 (by decide) rfl rfl (by decide) lk_X9_wipe_f176 rfl dX9_wipe_6 ?_
  replace hf := zl_some hf
  obtain ⟨v_3, hv_3, hf⟩ := hf
  refine lv_tope hv_3 ?_
  refine lv_istore_n (lv' := [(1, .int v_3), (0, .ref (L 15))]) hx hb dX9_wipe_9 rfl hl (by decide) rfl (fun ls_4 hl_4 => ?_)
  clear hl
  refine lv_aload_n hx hb dX9_wipe_10 rfl (lv_at hl_4 1 rfl) ?_
  refine lv_iconst (v := 0) hx hb dX9_wipe_11 (by decide) ?_
  refine k_put (ty := .int) (k := 8) (r := 22) (k' := 2) hx hb tyX9 tyX9_ok nmX9 hts in_X9_wipe_X9 hown hK  hL hA hQ_2 (by decide) rfl (by omega) (fun Y => rfl) (by simp [xup]) rfl (by decide) lk_X9_wipe_f176 rfl (by decide +kernel) rfl rfl (Nat.le_of_ble_eq_true rfl) dX9_wipe_12 (fun H_6 locs_6 hO_6 => ?_)
  replace hf := zl_some hf
  obtain ⟨X_5, hX_5, hf⟩ := hf
  have hQ_6 := zo_eq hX_5 hO_6
  clear hO_6 hQ_2
  refine lv_iload_n hx hb dX9_wipe_15 rfl (lv_at hl_4 0 rfl) ?_
  obtain ⟨rfl, rfl⟩ := Prod.mk.inj (Option.some.inj hf)
  exact e_i hx hb hr hK hN hQ_6 hlocks dX9_wipe_16
theorem in_X9_letter_X9 : ∀ w ∈ u_ws RX9 TX9 16, w ∈ wsX9_letter := by decide +kernel
theorem lk_X9_letter_f176 : Cond.fieldLink RX9 176 "PoisonPilesModel" "length" "I" ∈ wsX9_letter := by decide +kernel
theorem lk_X9_letter_f198 : Cond.fieldLink RX9 198 "PoisonPilesModel" "at" "I" ∈ wsX9_letter := by decide +kernel
theorem lk_X9_letter_f26 : Cond.fieldLink RX9 26 "PoisonPilesModel" "pad" "[I" ∈ wsX9_letter := by decide +kernel
def fX9_letter   (X : XM) : Option (Int32 × XM) := if (X 22 2) ≤ (X 22 3) then some (0, X) else zd (X 22 3) 80 (some (X 28 (Int32.toNatClampNeg (X 22 3)), X))
set_option maxHeartbeats 4000000 in
set_option maxRecDepth 100000 in
theorem mX9_letter (l : Launch) (D : va_G) (L : Nat → Nat) (ac : Nat → ClassId) (hL : LL L) (X : XM)  (r0 : Int32) (X0 : XM) (hf : fX9_letter  X = some (r0, X0)) : Ci l yX9_letter wsX9_letter ({ frames := 0, cells := 0, slots := 0, locals := 0 }) D L ac X [.ref (L 15)] r0 X0 := by
  refine Met.ofK (cc := cX9_letter) (maxL := 1) (ret := (some .int)) (lv := [(0, .ref (L 15))]) (by decide +kernel) rfl (Nat.le_of_ble_eq_true rfl) rfl ?_
  intro p e s m below meth c F hO ls hl
  obtain ⟨hx, hb, hr, hts, hown, hlocks, hml, hK, hN⟩ := id F
  have hA : ∀ q, fr L q → fr L q := fun q h => h
  unfold fX9_letter at hf
  refine lv_aload_n hx hb dX9_letter_0 rfl (lv_at hl 0 rfl) ?_
  refine k_get (k := 12) (v := .int (X 22 3)) hx hb hts in_X9_letter_X9 hown hK hO (by decide) rfl rfl (by decide) lk_X9_letter_f198 rfl dX9_letter_1 ?_
  refine lv_aload_n hx hb dX9_letter_4 rfl (lv_at hl 0 rfl) ?_
  refine k_get (k := 8) (v := .int (X 22 2)) hx hb hts in_X9_letter_X9 hown hK hO (by decide) rfl rfl (by decide) lk_X9_letter_f176 rfl dX9_letter_5 ?_
  refine lv_icmp_ge (tgt := 23) hx hb dX9_letter_8 (by decide) (fun c_1 => ?_) (fun c_1 => ?_)
  · rw [if_pos c_1] at hf
    refine lv_iconst (v := 0) hx hb dX9_letter_23 (by decide) ?_
    obtain ⟨rfl, rfl⟩ := Prod.mk.inj (Option.some.inj hf)
    exact e_i hx hb hr hK hN hO hlocks dX9_letter_24
  · rw [if_neg c_1] at hf
    refine lv_aload_n hx hb dX9_letter_11 rfl (lv_at hl 0 rfl) ?_
    refine k_get (k := 7) (v := .ref (L 21)) hx hb hts in_X9_letter_X9 hown hK hO (by decide) rfl rfl (by decide) lk_X9_letter_f26 rfl dX9_letter_12 ?_
    refine lv_aload_n hx hb dX9_letter_15 rfl (lv_at hl 0 rfl) ?_
    refine k_get (k := 12) (v := .int (X 22 3)) hx hb hts in_X9_letter_X9 hown hK hO (by decide) rfl rfl (by decide) lk_X9_letter_f198 rfl dX9_letter_16 ?_
    replace hf := zd_some hf
    obtain ⟨hi_2, hf⟩ := hf
    refine k_iald hx hb hK hO (by decide) (fun _ => rfl) hi_2 dX9_letter_19 ?_
    refine lv_goto (tgt := 24) hx hb dX9_letter_20 (by decide) ?_
    obtain ⟨rfl, rfl⟩ := Prod.mk.inj (Option.some.inj hf)
    exact e_i hx hb hr hK hN hO hlocks dX9_letter_24
theorem in_X9_digit_X9 : ∀ w ∈ u_ws RX9 TX9 16, w ∈ wsX9_digit := by decide +kernel
theorem lk_X9_digit_f198 : Cond.fieldLink RX9 198 "PoisonPilesModel" "at" "I" ∈ wsX9_digit := by decide +kernel
theorem lk_X9_digit_f201 : Cond.fieldLink RX9 201 "PoisonPilesModel" "isWell" "Z" ∈ wsX9_digit := by decide +kernel
def fX9_digit   (X : XM) : Option (Int32 × XM) := if (X 22 4) = 0 then zl (xup X 22 4 0) (fun X_2 => zi (fX9_letter X_2) (fun r_5 X_4 => zl (r_5 - 48) (fun v_7 => if (X_4 22 4) = 0 then zl (xup X_4 22 3 ((X_4 22 3) + 0)) (fun X_10 => some (v_7, X_10)) else zl (xup X_4 22 3 ((X_4 22 3) + 1)) (fun X_12 => some (v_7, X_12))))) else zi (fX9_letter X) (fun r_15 X_14 => zi (fX9_in r_15 48 57 X_14) (fun r_18 X_17 => if r_18 = 0 then zl (xup X_17 22 4 0) (fun X_21 => zi (fX9_letter X_21) (fun r_24 X_23 => zl (r_24 - 48) (fun v_26 => if (X_23 22 4) = 0 then zl (xup X_23 22 3 ((X_23 22 3) + 0)) (fun X_29 => some (v_26, X_29)) else zl (xup X_23 22 3 ((X_23 22 3) + 1)) (fun X_31 => some (v_26, X_31))))) else zl (xup X_17 22 4 1) (fun X_33 => zi (fX9_letter X_33) (fun r_36 X_35 => zl (r_36 - 48) (fun v_38 => if (X_35 22 4) = 0 then zl (xup X_35 22 3 ((X_35 22 3) + 0)) (fun X_41 => some (v_38, X_41)) else zl (xup X_35 22 3 ((X_35 22 3) + 1)) (fun X_43 => some (v_38, X_43)))))))
set_option maxHeartbeats 4000000 in
set_option maxRecDepth 100000 in
theorem mX9_digit (l : Launch) (D : va_G) (L : Nat → Nat) (ac : Nat → ClassId) (hL : LL L) (X : XM)  (r0 : Int32) (X0 : XM) (hf : fX9_digit  X = some (r0, X0)) : Ci l yX9_digit wsX9_digit ({ frames := 1, cells := 0, slots := 0, locals := 22 }) D L ac X [.ref (L 15)] r0 X0 := by
  refine Met.ofK (cc := cX9_digit) (maxL := 2) (ret := (some .int)) (lv := [(0, .ref (L 15))]) (by decide +kernel) rfl (Nat.le_of_ble_eq_true rfl) rfl ?_
  intro p e s m below meth c F hO ls hl
  obtain ⟨hx, hb, hr, hts, hown, hlocks, hml, hK, hN⟩ := id F
  have hA : ∀ q, fr L q → fr L q := fun q h => h
  unfold fX9_digit at hf
  refine lv_aload_n hx hb dX9_digit_0 rfl (lv_at hl 0 rfl) ?_
  refine lv_aload_n hx hb dX9_digit_1 rfl (lv_at hl 0 rfl) ?_
  refine k_get (k := 13) (v := .int (X 22 4)) hx hb hts in_X9_digit_X9 hown hK hO (by decide) rfl rfl (by decide) lk_X9_digit_f201 rfl dX9_digit_2 ?_
  refine lv_if_eq (tgt := 26) hx hb dX9_digit_5 (by decide) (fun c_1 => ?_) (fun c_1 => ?_)
  · rw [if_pos c_1] at hf
    refine lv_iconst (v := 0) hx hb dX9_digit_26 (by decide) ?_
    refine k_put (ty := .boolean) (k := 13) (r := 22) (k' := 4) hx hb tyX9 tyX9_ok nmX9 hts in_X9_digit_X9 hown hK  hL hA hO (by decide) rfl (by omega) (fun Y => rfl) (by simp [xup]) rfl (by decide) lk_X9_digit_f201 rfl (by decide +kernel) (bo_n (by decide)) (bo_f (by decide)) (Nat.le_of_ble_eq_true rfl) dX9_digit_27 (fun H_3 locs_3 hO_3 => ?_)
    replace hf := zl_some hf
    obtain ⟨X_2, hX_2, hf⟩ := hf
    have hQ_3 := zo_eq hX_2 hO_3
    clear hO_3 hO
    refine lv_aload_n hx hb dX9_digit_30 rfl (lv_at hl 0 rfl) ?_
    replace hf := zi_some hf
    obtain ⟨r_5, X_4, hc_4, hf⟩ := hf
    refine k_ai (va_runV (As := []) (rest := []) ⟨hx, hb, hml, hown, hts⟩ (mX9_letter l D L ac hL _  _ _ hc_4) (cwV 0 hts gX9_digit_X9_letter rfl rfl rfl (by decide +kernel) ⟨Nat.le_of_ble_eq_true rfl, Nat.le_of_ble_eq_true rfl⟩) (k_pv (j := 15) hK hN hQ_3 (by decide) rfl rfl _) rfl rfl hl.1 rfl (lv_room (Nat.le_of_ble_eq_true rfl)) dX9_digit_31 ⟨Nat.le_of_ble_eq_true rfl, Nat.le_of_ble_eq_true rfl⟩) hA hQ_3 (fun H_6 locs_6 hO_6 => ?_)
    clear hQ_3
    refine lv_bipush (v := 48) hx hb dX9_digit_34 (by decide) ?_
    refine lv_isub hx hb dX9_digit_36 ?_
    replace hf := zl_some hf
    obtain ⟨v_7, hv_7, hf⟩ := hf
    refine lv_tope hv_7 ?_
    refine lv_istore_n (lv' := [(1, .int v_7), (0, .ref (L 15))]) hx hb dX9_digit_37 rfl hl (by decide) rfl (fun ls_8 hl_8 => ?_)
    clear hl
    refine lv_aload_n hx hb dX9_digit_38 rfl (lv_at hl_8 1 rfl) ?_
    refine lv_dup hx hb dX9_digit_39 rfl ?_
    refine k_get (k := 12) (v := .int (X_4 22 3)) hx hb hts in_X9_digit_X9 hown hK hO_6 (by decide) rfl rfl (by decide) lk_X9_digit_f198 rfl dX9_digit_40 ?_
    refine lv_aload_n hx hb dX9_digit_43 rfl (lv_at hl_8 1 rfl) ?_
    refine k_get (k := 13) (v := .int (X_4 22 4)) hx hb hts in_X9_digit_X9 hown hK hO_6 (by decide) rfl rfl (by decide) lk_X9_digit_f201 rfl dX9_digit_44 ?_
    refine lv_if_eq (tgt := 54) hx hb dX9_digit_47 (by decide) (fun c_9 => ?_) (fun c_9 => ?_)
    · rw [if_pos c_9] at hf
      refine lv_iconst (v := 0) hx hb dX9_digit_54 (by decide) ?_
      refine lv_iadd hx hb dX9_digit_55 ?_
      refine k_put (ty := .int) (k := 12) (r := 22) (k' := 3) hx hb tyX9 tyX9_ok nmX9 hts in_X9_digit_X9 hown hK  hL hA hO_6 (by decide) rfl (by omega) (fun Y => rfl) (by simp [xup]) rfl (by decide) lk_X9_digit_f198 rfl (by decide +kernel) rfl rfl (Nat.le_of_ble_eq_true rfl) dX9_digit_56 (fun H_11 locs_11 hO_11 => ?_)
      replace hf := zl_some hf
      obtain ⟨X_10, hX_10, hf⟩ := hf
      have hQ_11 := zo_eq hX_10 hO_11
      clear hO_11 hO_6
      refine lv_iload_n hx hb dX9_digit_59 rfl (lv_at hl_8 0 rfl) ?_
      obtain ⟨rfl, rfl⟩ := Prod.mk.inj (Option.some.inj hf)
      exact e_i hx hb hr hK hN hQ_11 hlocks dX9_digit_60
    · rw [if_neg c_9] at hf
      refine lv_iconst (v := 1) hx hb dX9_digit_50 (by decide) ?_
      refine lv_goto (tgt := 55) hx hb dX9_digit_51 (by decide) ?_
      refine lv_iadd hx hb dX9_digit_55 ?_
      refine k_put (ty := .int) (k := 12) (r := 22) (k' := 3) hx hb tyX9 tyX9_ok nmX9 hts in_X9_digit_X9 hown hK  hL hA hO_6 (by decide) rfl (by omega) (fun Y => rfl) (by simp [xup]) rfl (by decide) lk_X9_digit_f198 rfl (by decide +kernel) rfl rfl (Nat.le_of_ble_eq_true rfl) dX9_digit_56 (fun H_13 locs_13 hO_13 => ?_)
      replace hf := zl_some hf
      obtain ⟨X_12, hX_12, hf⟩ := hf
      have hQ_13 := zo_eq hX_12 hO_13
      clear hO_13 hO_6
      refine lv_iload_n hx hb dX9_digit_59 rfl (lv_at hl_8 0 rfl) ?_
      obtain ⟨rfl, rfl⟩ := Prod.mk.inj (Option.some.inj hf)
      exact e_i hx hb hr hK hN hQ_13 hlocks dX9_digit_60
  · rw [if_neg c_1] at hf
    refine lv_aload_n hx hb dX9_digit_8 rfl (lv_at hl 0 rfl) ?_
    replace hf := zi_some hf
    obtain ⟨r_15, X_14, hc_14, hf⟩ := hf
    refine k_ai (va_runV (As := []) (rest := [.ref (L 15)]) ⟨hx, hb, hml, hown, hts⟩ (mX9_letter l D L ac hL _  _ _ hc_14) (cwV 0 hts gX9_digit_X9_letter rfl rfl rfl (by decide +kernel) ⟨Nat.le_of_ble_eq_true rfl, Nat.le_of_ble_eq_true rfl⟩) (k_pv (j := 15) hK hN hO (by decide) rfl rfl _) rfl rfl hl.1 rfl (lv_room (Nat.le_of_ble_eq_true rfl)) dX9_digit_9 ⟨Nat.le_of_ble_eq_true rfl, Nat.le_of_ble_eq_true rfl⟩) hA hO (fun H_16 locs_16 hO_16 => ?_)
    clear hO
    refine lv_bipush (v := 48) hx hb dX9_digit_12 (by decide) ?_
    refine lv_bipush (v := 57) hx hb dX9_digit_14 (by decide) ?_
    replace hf := zi_some hf
    obtain ⟨r_18, X_17, hc_17, hf⟩ := hf
    refine k_ai (va_runS (As := [.int r_15, .int 48, .int 57]) (rest := [.ref (L 15)]) ⟨hx, hb, hml, hown, hts⟩ (mX9_in l D L ac hL _ r_15 48 57 _ _ hc_17) (va_cwS 3 hts gX9_digit_X9_in rfl rfl rfl (by decide +kernel) ⟨Nat.le_of_ble_eq_true rfl, Nat.le_of_ble_eq_true rfl⟩) (k_ps hK hN hO_16 _) rfl rfl hl.1 rfl (lv_room (Nat.le_of_ble_eq_true rfl)) dX9_digit_16 ⟨Nat.le_of_ble_eq_true rfl, Nat.le_of_ble_eq_true rfl⟩) hA hO_16 (fun H_19 locs_19 hO_19 => ?_)
    clear hO_16
    refine lv_if_eq (tgt := 26) hx hb dX9_digit_19 (by decide) (fun c_20 => ?_) (fun c_20 => ?_)
    · rw [if_pos c_20] at hf
      subst c_20
      refine lv_iconst (v := 0) hx hb dX9_digit_26 (by decide) ?_
      refine k_put (ty := .boolean) (k := 13) (r := 22) (k' := 4) hx hb tyX9 tyX9_ok nmX9 hts in_X9_digit_X9 hown hK  hL hA hO_19 (by decide) rfl (by omega) (fun Y => rfl) (by simp [xup]) rfl (by decide) lk_X9_digit_f201 rfl (by decide +kernel) (bo_n (by decide)) (bo_f (by decide)) (Nat.le_of_ble_eq_true rfl) dX9_digit_27 (fun H_22 locs_22 hO_22 => ?_)
      replace hf := zl_some hf
      obtain ⟨X_21, hX_21, hf⟩ := hf
      have hQ_22 := zo_eq hX_21 hO_22
      clear hO_22 hO_19
      refine lv_aload_n hx hb dX9_digit_30 rfl (lv_at hl 0 rfl) ?_
      replace hf := zi_some hf
      obtain ⟨r_24, X_23, hc_23, hf⟩ := hf
      refine k_ai (va_runV (As := []) (rest := []) ⟨hx, hb, hml, hown, hts⟩ (mX9_letter l D L ac hL _  _ _ hc_23) (cwV 0 hts gX9_digit_X9_letter rfl rfl rfl (by decide +kernel) ⟨Nat.le_of_ble_eq_true rfl, Nat.le_of_ble_eq_true rfl⟩) (k_pv (j := 15) hK hN hQ_22 (by decide) rfl rfl _) rfl rfl hl.1 rfl (lv_room (Nat.le_of_ble_eq_true rfl)) dX9_digit_31 ⟨Nat.le_of_ble_eq_true rfl, Nat.le_of_ble_eq_true rfl⟩) hA hQ_22 (fun H_25 locs_25 hO_25 => ?_)
      clear hQ_22
      refine lv_bipush (v := 48) hx hb dX9_digit_34 (by decide) ?_
      refine lv_isub hx hb dX9_digit_36 ?_
      replace hf := zl_some hf
      obtain ⟨v_26, hv_26, hf⟩ := hf
      refine lv_tope hv_26 ?_
      refine lv_istore_n (lv' := [(1, .int v_26), (0, .ref (L 15))]) hx hb dX9_digit_37 rfl hl (by decide) rfl (fun ls_27 hl_27 => ?_)
      clear hl
      refine lv_aload_n hx hb dX9_digit_38 rfl (lv_at hl_27 1 rfl) ?_
      refine lv_dup hx hb dX9_digit_39 rfl ?_
      refine k_get (k := 12) (v := .int (X_23 22 3)) hx hb hts in_X9_digit_X9 hown hK hO_25 (by decide) rfl rfl (by decide) lk_X9_digit_f198 rfl dX9_digit_40 ?_
      refine lv_aload_n hx hb dX9_digit_43 rfl (lv_at hl_27 1 rfl) ?_
      refine k_get (k := 13) (v := .int (X_23 22 4)) hx hb hts in_X9_digit_X9 hown hK hO_25 (by decide) rfl rfl (by decide) lk_X9_digit_f201 rfl dX9_digit_44 ?_
      refine lv_if_eq (tgt := 54) hx hb dX9_digit_47 (by decide) (fun c_28 => ?_) (fun c_28 => ?_)
      · rw [if_pos c_28] at hf
        refine lv_iconst (v := 0) hx hb dX9_digit_54 (by decide) ?_
        refine lv_iadd hx hb dX9_digit_55 ?_
        refine k_put (ty := .int) (k := 12) (r := 22) (k' := 3) hx hb tyX9 tyX9_ok nmX9 hts in_X9_digit_X9 hown hK  hL hA hO_25 (by decide) rfl (by omega) (fun Y => rfl) (by simp [xup]) rfl (by decide) lk_X9_digit_f198 rfl (by decide +kernel) rfl rfl (Nat.le_of_ble_eq_true rfl) dX9_digit_56 (fun H_30 locs_30 hO_30 => ?_)
        replace hf := zl_some hf
        obtain ⟨X_29, hX_29, hf⟩ := hf
        have hQ_30 := zo_eq hX_29 hO_30
        clear hO_30 hO_25
        refine lv_iload_n hx hb dX9_digit_59 rfl (lv_at hl_27 0 rfl) ?_
        obtain ⟨rfl, rfl⟩ := Prod.mk.inj (Option.some.inj hf)
        exact e_i hx hb hr hK hN hQ_30 hlocks dX9_digit_60
      · rw [if_neg c_28] at hf
        refine lv_iconst (v := 1) hx hb dX9_digit_50 (by decide) ?_
        refine lv_goto (tgt := 55) hx hb dX9_digit_51 (by decide) ?_
        refine lv_iadd hx hb dX9_digit_55 ?_
        refine k_put (ty := .int) (k := 12) (r := 22) (k' := 3) hx hb tyX9 tyX9_ok nmX9 hts in_X9_digit_X9 hown hK  hL hA hO_25 (by decide) rfl (by omega) (fun Y => rfl) (by simp [xup]) rfl (by decide) lk_X9_digit_f198 rfl (by decide +kernel) rfl rfl (Nat.le_of_ble_eq_true rfl) dX9_digit_56 (fun H_32 locs_32 hO_32 => ?_)
        replace hf := zl_some hf
        obtain ⟨X_31, hX_31, hf⟩ := hf
        have hQ_32 := zo_eq hX_31 hO_32
        clear hO_32 hO_25
        refine lv_iload_n hx hb dX9_digit_59 rfl (lv_at hl_27 0 rfl) ?_
        obtain ⟨rfl, rfl⟩ := Prod.mk.inj (Option.some.inj hf)
        exact e_i hx hb hr hK hN hQ_32 hlocks dX9_digit_60
    · rw [if_neg c_20] at hf
      refine lv_iconst (v := 1) hx hb dX9_digit_22 (by decide) ?_
      refine lv_goto (tgt := 27) hx hb dX9_digit_23 (by decide) ?_
      refine k_put (ty := .boolean) (k := 13) (r := 22) (k' := 4) hx hb tyX9 tyX9_ok nmX9 hts in_X9_digit_X9 hown hK  hL hA hO_19 (by decide) rfl (by omega) (fun Y => rfl) (by simp [xup]) rfl (by decide) lk_X9_digit_f201 rfl (by decide +kernel) (bo_n (by decide)) (bo_f (by decide)) (Nat.le_of_ble_eq_true rfl) dX9_digit_27 (fun H_34 locs_34 hO_34 => ?_)
      replace hf := zl_some hf
      obtain ⟨X_33, hX_33, hf⟩ := hf
      have hQ_34 := zo_eq hX_33 hO_34
      clear hO_34 hO_19
      refine lv_aload_n hx hb dX9_digit_30 rfl (lv_at hl 0 rfl) ?_
      replace hf := zi_some hf
      obtain ⟨r_36, X_35, hc_35, hf⟩ := hf
      refine k_ai (va_runV (As := []) (rest := []) ⟨hx, hb, hml, hown, hts⟩ (mX9_letter l D L ac hL _  _ _ hc_35) (cwV 0 hts gX9_digit_X9_letter rfl rfl rfl (by decide +kernel) ⟨Nat.le_of_ble_eq_true rfl, Nat.le_of_ble_eq_true rfl⟩) (k_pv (j := 15) hK hN hQ_34 (by decide) rfl rfl _) rfl rfl hl.1 rfl (lv_room (Nat.le_of_ble_eq_true rfl)) dX9_digit_31 ⟨Nat.le_of_ble_eq_true rfl, Nat.le_of_ble_eq_true rfl⟩) hA hQ_34 (fun H_37 locs_37 hO_37 => ?_)
      clear hQ_34
      refine lv_bipush (v := 48) hx hb dX9_digit_34 (by decide) ?_
      refine lv_isub hx hb dX9_digit_36 ?_
      replace hf := zl_some hf
      obtain ⟨v_38, hv_38, hf⟩ := hf
      refine lv_tope hv_38 ?_
      refine lv_istore_n (lv' := [(1, .int v_38), (0, .ref (L 15))]) hx hb dX9_digit_37 rfl hl (by decide) rfl (fun ls_39 hl_39 => ?_)
      clear hl
      refine lv_aload_n hx hb dX9_digit_38 rfl (lv_at hl_39 1 rfl) ?_
      refine lv_dup hx hb dX9_digit_39 rfl ?_
      refine k_get (k := 12) (v := .int (X_35 22 3)) hx hb hts in_X9_digit_X9 hown hK hO_37 (by decide) rfl rfl (by decide) lk_X9_digit_f198 rfl dX9_digit_40 ?_
      refine lv_aload_n hx hb dX9_digit_43 rfl (lv_at hl_39 1 rfl) ?_
      refine k_get (k := 13) (v := .int (X_35 22 4)) hx hb hts in_X9_digit_X9 hown hK hO_37 (by decide) rfl rfl (by decide) lk_X9_digit_f201 rfl dX9_digit_44 ?_
      refine lv_if_eq (tgt := 54) hx hb dX9_digit_47 (by decide) (fun c_40 => ?_) (fun c_40 => ?_)
      · rw [if_pos c_40] at hf
        refine lv_iconst (v := 0) hx hb dX9_digit_54 (by decide) ?_
        refine lv_iadd hx hb dX9_digit_55 ?_
        refine k_put (ty := .int) (k := 12) (r := 22) (k' := 3) hx hb tyX9 tyX9_ok nmX9 hts in_X9_digit_X9 hown hK  hL hA hO_37 (by decide) rfl (by omega) (fun Y => rfl) (by simp [xup]) rfl (by decide) lk_X9_digit_f198 rfl (by decide +kernel) rfl rfl (Nat.le_of_ble_eq_true rfl) dX9_digit_56 (fun H_42 locs_42 hO_42 => ?_)
        replace hf := zl_some hf
        obtain ⟨X_41, hX_41, hf⟩ := hf
        have hQ_42 := zo_eq hX_41 hO_42
        clear hO_42 hO_37
        refine lv_iload_n hx hb dX9_digit_59 rfl (lv_at hl_39 0 rfl) ?_
        obtain ⟨rfl, rfl⟩ := Prod.mk.inj (Option.some.inj hf)
        exact e_i hx hb hr hK hN hQ_42 hlocks dX9_digit_60
      · rw [if_neg c_40] at hf
        refine lv_iconst (v := 1) hx hb dX9_digit_50 (by decide) ?_
        refine lv_goto (tgt := 55) hx hb dX9_digit_51 (by decide) ?_
        refine lv_iadd hx hb dX9_digit_55 ?_
        refine k_put (ty := .int) (k := 12) (r := 22) (k' := 3) hx hb tyX9 tyX9_ok nmX9 hts in_X9_digit_X9 hown hK  hL hA hO_37 (by decide) rfl (by omega) (fun Y => rfl) (by simp [xup]) rfl (by decide) lk_X9_digit_f198 rfl (by decide +kernel) rfl rfl (Nat.le_of_ble_eq_true rfl) dX9_digit_56 (fun H_44 locs_44 hO_44 => ?_)
        replace hf := zl_some hf
        obtain ⟨X_43, hX_43, hf⟩ := hf
        have hQ_44 := zo_eq hX_43 hO_44
        clear hO_44 hO_37
        refine lv_iload_n hx hb dX9_digit_59 rfl (lv_at hl_39 0 rfl) ?_
        obtain ⟨rfl, rfl⟩ := Prod.mk.inj (Option.some.inj hf)
        exact e_i hx hb hr hK hN hQ_44 hlocks dX9_digit_60
theorem in_X9_hasSign_X9 : ∀ w ∈ u_ws RX9 TX9 16, w ∈ wsX9_hasSign := by decide +kernel
theorem lk_X9_hasSign_f198 : Cond.fieldLink RX9 198 "PoisonPilesModel" "at" "I" ∈ wsX9_hasSign := by decide +kernel
theorem lk_X9_hasSign_f201 : Cond.fieldLink RX9 201 "PoisonPilesModel" "isWell" "Z" ∈ wsX9_hasSign := by decide +kernel
def fX9_hasSign  (a1 : Int32) (X : XM) : Option (Int32 × XM) := if (X 22 4) = 0 then zl (xup X 22 3 ((X 22 3) + 0)) (fun X_4 => some (0, X_4)) else zi (fX9_letter X) (fun r_7 X_6 => if r_7 = a1 then zl (xup X_6 22 3 ((X_6 22 3) + 1)) (fun X_16 => some (1, X_16)) else zl (xup X_6 22 3 ((X_6 22 3) + 0)) (fun X_12 => some (0, X_12)))
set_option maxHeartbeats 4000000 in
set_option maxRecDepth 100000 in
theorem mX9_hasSign (l : Launch) (D : va_G) (L : Nat → Nat) (ac : Nat → ClassId) (hL : LL L) (X : XM) (a1 : Int32) (r0 : Int32) (X0 : XM) (hf : fX9_hasSign a1 X = some (r0, X0)) : Ci l yX9_hasSign wsX9_hasSign ({ frames := 1, cells := 0, slots := 0, locals := 20 }) D L ac X [.ref (L 15), .int a1] r0 X0 := by
  refine Met.ofK (cc := cX9_hasSign) (maxL := 3) (ret := (some .boolean)) (lv := [(0, .ref (L 15)), (1, .int a1)]) (by decide +kernel) rfl (Nat.le_of_ble_eq_true rfl) rfl ?_
  intro p e s m below meth c F hO ls hl
  obtain ⟨hx, hb, hr, hts, hown, hlocks, hml, hK, hN⟩ := id F
  have hA : ∀ q, fr L q → fr L q := fun q h => h
  unfold fX9_hasSign at hf
  refine lv_aload_n hx hb dX9_hasSign_0 rfl (lv_at hl 0 rfl) ?_
  refine k_get (k := 13) (v := .int (X 22 4)) hx hb hts in_X9_hasSign_X9 hown hK hO (by decide) rfl rfl (by decide) lk_X9_hasSign_f201 rfl dX9_hasSign_1 ?_
  refine lv_if_eq (tgt := 19) hx hb dX9_hasSign_4 (by decide) (fun c_1 => ?_) (fun c_1 => ?_)
  · rw [if_pos c_1] at hf
    refine lv_iconst (v := 0) hx hb dX9_hasSign_19 (by decide) ?_
    refine lv_istore_n (lv' := [(2, .int 0), (0, .ref (L 15)), (1, .int a1)]) hx hb dX9_hasSign_20 rfl hl (by decide) rfl (fun ls_2 hl_2 => ?_)
    clear hl
    refine lv_aload_n hx hb dX9_hasSign_21 rfl (lv_at hl_2 1 rfl) ?_
    refine lv_dup hx hb dX9_hasSign_22 rfl ?_
    refine k_get (k := 12) (v := .int (X 22 3)) hx hb hts in_X9_hasSign_X9 hown hK hO (by decide) rfl rfl (by decide) lk_X9_hasSign_f198 rfl dX9_hasSign_23 ?_
    refine lv_iload_n hx hb dX9_hasSign_26 rfl (lv_at hl_2 0 rfl) ?_
    refine lv_if_eq (tgt := 34) hx hb dX9_hasSign_27 (by decide) (fun _ => ?_) (fun c_3 => absurd (by decide) c_3)
    refine lv_iconst (v := 0) hx hb dX9_hasSign_34 (by decide) ?_
    refine lv_iadd hx hb dX9_hasSign_35 ?_
    refine k_put (ty := .int) (k := 12) (r := 22) (k' := 3) hx hb tyX9 tyX9_ok nmX9 hts in_X9_hasSign_X9 hown hK  hL hA hO (by decide) rfl (by omega) (fun Y => rfl) (by simp [xup]) rfl (by decide) lk_X9_hasSign_f198 rfl (by decide +kernel) rfl rfl (Nat.le_of_ble_eq_true rfl) dX9_hasSign_36 (fun H_5 locs_5 hO_5 => ?_)
    replace hf := zl_some hf
    obtain ⟨X_4, hX_4, hf⟩ := hf
    have hQ_5 := zo_eq hX_4 hO_5
    clear hO_5 hO
    refine lv_iload_n hx hb dX9_hasSign_39 rfl (lv_at hl_2 0 rfl) ?_
    obtain ⟨rfl, rfl⟩ := Prod.mk.inj (Option.some.inj hf)
    exact e_n hx hb hr (bo_n (by decide)) hK hN hQ_5 hlocks dX9_hasSign_40
  · rw [if_neg c_1] at hf
    refine lv_aload_n hx hb dX9_hasSign_7 rfl (lv_at hl 0 rfl) ?_
    replace hf := zi_some hf
    obtain ⟨r_7, X_6, hc_6, hf⟩ := hf
    refine k_ai (va_runV (As := []) (rest := []) ⟨hx, hb, hml, hown, hts⟩ (mX9_letter l D L ac hL _  _ _ hc_6) (cwV 0 hts gX9_hasSign_X9_letter rfl rfl rfl (by decide +kernel) ⟨Nat.le_of_ble_eq_true rfl, Nat.le_of_ble_eq_true rfl⟩) (k_pv (j := 15) hK hN hO (by decide) rfl rfl _) rfl rfl hl.1 rfl (lv_room (Nat.le_of_ble_eq_true rfl)) dX9_hasSign_8 ⟨Nat.le_of_ble_eq_true rfl, Nat.le_of_ble_eq_true rfl⟩) hA hO (fun H_8 locs_8 hO_8 => ?_)
    clear hO
    refine lv_iload_n hx hb dX9_hasSign_11 rfl (lv_at hl 1 rfl) ?_
    refine lv_icmp_ne (tgt := 19) hx hb dX9_hasSign_12 (by decide) (fun c_9 => ?_) (fun c_9 => ?_)
    · rw [if_neg c_9] at hf
      refine lv_iconst (v := 0) hx hb dX9_hasSign_19 (by decide) ?_
      refine lv_istore_n (lv' := [(2, .int 0), (0, .ref (L 15)), (1, .int a1)]) hx hb dX9_hasSign_20 rfl hl (by decide) rfl (fun ls_10 hl_10 => ?_)
      clear hl
      refine lv_aload_n hx hb dX9_hasSign_21 rfl (lv_at hl_10 1 rfl) ?_
      refine lv_dup hx hb dX9_hasSign_22 rfl ?_
      refine k_get (k := 12) (v := .int (X_6 22 3)) hx hb hts in_X9_hasSign_X9 hown hK hO_8 (by decide) rfl rfl (by decide) lk_X9_hasSign_f198 rfl dX9_hasSign_23 ?_
      refine lv_iload_n hx hb dX9_hasSign_26 rfl (lv_at hl_10 0 rfl) ?_
      refine lv_if_eq (tgt := 34) hx hb dX9_hasSign_27 (by decide) (fun _ => ?_) (fun c_11 => absurd (by decide) c_11)
      refine lv_iconst (v := 0) hx hb dX9_hasSign_34 (by decide) ?_
      refine lv_iadd hx hb dX9_hasSign_35 ?_
      refine k_put (ty := .int) (k := 12) (r := 22) (k' := 3) hx hb tyX9 tyX9_ok nmX9 hts in_X9_hasSign_X9 hown hK  hL hA hO_8 (by decide) rfl (by omega) (fun Y => rfl) (by simp [xup]) rfl (by decide) lk_X9_hasSign_f198 rfl (by decide +kernel) rfl rfl (Nat.le_of_ble_eq_true rfl) dX9_hasSign_36 (fun H_13 locs_13 hO_13 => ?_)
      replace hf := zl_some hf
      obtain ⟨X_12, hX_12, hf⟩ := hf
      have hQ_13 := zo_eq hX_12 hO_13
      clear hO_13 hO_8
      refine lv_iload_n hx hb dX9_hasSign_39 rfl (lv_at hl_10 0 rfl) ?_
      obtain ⟨rfl, rfl⟩ := Prod.mk.inj (Option.some.inj hf)
      exact e_n hx hb hr (bo_n (by decide)) hK hN hQ_13 hlocks dX9_hasSign_40
    · rw [if_pos c_9] at hf
      refine lv_iconst (v := 1) hx hb dX9_hasSign_15 (by decide) ?_
      refine lv_goto (tgt := 20) hx hb dX9_hasSign_16 (by decide) ?_
      refine lv_istore_n (lv' := [(2, .int 1), (0, .ref (L 15)), (1, .int a1)]) hx hb dX9_hasSign_20 rfl hl (by decide) rfl (fun ls_14 hl_14 => ?_)
      clear hl
      refine lv_aload_n hx hb dX9_hasSign_21 rfl (lv_at hl_14 1 rfl) ?_
      refine lv_dup hx hb dX9_hasSign_22 rfl ?_
      refine k_get (k := 12) (v := .int (X_6 22 3)) hx hb hts in_X9_hasSign_X9 hown hK hO_8 (by decide) rfl rfl (by decide) lk_X9_hasSign_f198 rfl dX9_hasSign_23 ?_
      refine lv_iload_n hx hb dX9_hasSign_26 rfl (lv_at hl_14 0 rfl) ?_
      refine lv_if_eq (tgt := 34) hx hb dX9_hasSign_27 (by decide) (fun c_15 => absurd c_15 (by decide)) (fun _ => ?_)
      refine lv_iconst (v := 1) hx hb dX9_hasSign_30 (by decide) ?_
      refine lv_goto (tgt := 35) hx hb dX9_hasSign_31 (by decide) ?_
      refine lv_iadd hx hb dX9_hasSign_35 ?_
      refine k_put (ty := .int) (k := 12) (r := 22) (k' := 3) hx hb tyX9 tyX9_ok nmX9 hts in_X9_hasSign_X9 hown hK  hL hA hO_8 (by decide) rfl (by omega) (fun Y => rfl) (by simp [xup]) rfl (by decide) lk_X9_hasSign_f198 rfl (by decide +kernel) rfl rfl (Nat.le_of_ble_eq_true rfl) dX9_hasSign_36 (fun H_17 locs_17 hO_17 => ?_)
      replace hf := zl_some hf
      obtain ⟨X_16, hX_16, hf⟩ := hf
      have hQ_17 := zo_eq hX_16 hO_17
      clear hO_17 hO_8
      refine lv_iload_n hx hb dX9_hasSign_39 rfl (lv_at hl_14 0 rfl) ?_
      obtain ⟨rfl, rfl⟩ := Prod.mk.inj (Option.some.inj hf)
      exact e_n hx hb hr (bo_n (by decide)) hK hN hQ_17 hlocks dX9_hasSign_40
