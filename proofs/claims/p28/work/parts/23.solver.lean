def fJ7_fill_VAL_5   : Nat → Int32 → Int32 → Int32 → XM → Option XM
  | 0, _, _, _, _ => none
  | n + 1, x1, x2, x3, X => if x3 ≤ x2 then some X else zd x2 23328 (zl (xup X 14 (Int32.toNatClampNeg x2) x1) (fun X_3 => fJ7_fill_VAL_5 n x1 (x2 + 1) x3 X_3))
set_option maxHeartbeats 4000000 in
set_option maxRecDepth 100000 in
theorem wJ7_fill_VAL_5 {p : Program} {l : Launch} {e : Env} {s : State} {m : MethodId} {args : Array Value} {below : List Frame} {meth : Method} {c : Code} {D : va_G} {L : Nat → Nat} {ac : Nat → ClassId} {X0 : XM} (hL : LL L) (F : Fx p s m args meth c cJ7_fill_53178 4 none wsJ7_fill_53178 yJ7_fill_53178.cls D ac) : ∀ (n : Nat) (x1 : Int32) (x2 : Int32) (x3 : Int32) (X : XM) (H : Heap) (locs : List Loc) (ls : Array Slot), Oh D L ac X (fr L) s.heap H locs → lv_has ls 4 [(0, .ref (L 7)), (1, .int x1), (2, .int x2), (3, .int x3)] → fJ7_fill_VAL_5 n x1 x2 x3 X = some X0 → W p l e (headSpec wsJ7_fill_53178 ({ frames := 0, cells := 0, slots := 0, locals := 0 })).room s m args below meth c H locs 0 0 (MQ below (va_Qv (fun (Y : XM) => Y = X0) (fun (Y : XM) t => St D L ac Y t) (fr L)) args s 0 0 (fr L)) (F0 m 5 ls []) := by
  obtain ⟨hx, hb, hr, hts, hown, hlocks, hml, hK, hN⟩ := id F
  have hA : ∀ q, fr L q → fr L q := fun q h => h
  intro n
  induction n with
  | zero => intro x1 x2 x3 X H locs ls hO hl hf; simp [fJ7_fill_VAL_5] at hf
  | succ n ih =>
    intro x1 x2 x3 X H locs ls hO hl hf
    rw [fJ7_fill_VAL_5] at hf
    refine lv_iload_n hx hb dJ7_fill_53178_5 rfl (lv_at hl 2 rfl) ?_
    refine lv_iload_n hx hb dJ7_fill_53178_6 rfl (lv_at hl 3 rfl) ?_
    refine lv_icmp_ge (tgt := 20) hx hb dJ7_fill_53178_7 (by decide) (fun c_1 => ?_) (fun c_1 => ?_)
    · rw [if_pos c_1] at hf
      obtain rfl := Option.some.inj hf
      exact e_v hx hb hr hK hN hO hlocks dJ7_fill_53178_20
    · rw [if_neg c_1] at hf
      refine lv_aload_n hx hb dJ7_fill_53178_10 rfl (lv_at hl 0 rfl) ?_
      refine lv_iload_n hx hb dJ7_fill_53178_11 rfl (lv_at hl 2 rfl) ?_
      refine lv_iload_n hx hb dJ7_fill_53178_12 rfl (lv_at hl 1 rfl) ?_
      replace hf := zd_some hf
      obtain ⟨hi_2, hf⟩ := hf
      refine k_iast hx hb hK hL hA hO (by decide) (by decide) rfl (fun _ => rfl) hi_2 dJ7_fill_53178_13 (fun H_4 locs_4 hO_4 => ?_)
      replace hf := zl_some hf
      obtain ⟨X_3, hX_3, hf⟩ := hf
      have hQ_4 := zo_eq hX_3 hO_4
      clear hO_4 hO
      refine lv_iinc (v := x2 + 1) (lv' := [(2, .int (x2 + 1)), (0, .ref (L 7)), (1, .int x1), (3, .int x3)]) hx hb dJ7_fill_53178_14 hl (k := 2) rfl rfl (by decide) rfl (fun ls_5 hl_5 => ?_)
      clear hl
      refine lv_goto (tgt := 5) hx hb dJ7_fill_53178_17 (by decide) ?_
      exact ih _ _ _ _  _ _ _ hQ_4 (lv_sub hl_5 [1, 2, 0, 3] rfl) hf
def fJ7_fill_VAL  (a2 : Int32) (X : XM) : Option XM := fJ7_fill_VAL_5 fuel a2 0 23328 X
set_option maxHeartbeats 4000000 in
set_option maxRecDepth 100000 in
theorem mJ7_fill_VAL (l : Launch) (D : va_G) (L : Nat → Nat) (ac : Nat → ClassId) (hL : LL L) (X : XM) (a2 : Int32) (X0 : XM) (hf : fJ7_fill_VAL a2 X = some X0) : Cv l yJ7_fill_53178 wsJ7_fill_53178 ({ frames := 0, cells := 0, slots := 0, locals := 0 }) D L ac X [.ref (L 7), .int a2] X0 := by
  refine Met.ofK (cc := cJ7_fill_53178) (maxL := 4) (ret := none) (lv := [(0, .ref (L 7)), (1, .int a2)]) (by decide +kernel) rfl (Nat.le_of_ble_eq_true rfl) rfl ?_
  intro p e s m below meth c F hO ls hl
  obtain ⟨hx, hb, hr, hts, hown, hlocks, hml, hK, hN⟩ := id F
  have hA : ∀ q, fr L q → fr L q := fun q h => h
  unfold fJ7_fill_VAL at hf
  refine lv_iconst (v := 0) hx hb dJ7_fill_53178_0 (by decide) ?_
  refine lv_istore_n (lv' := [(2, .int 0), (0, .ref (L 7)), (1, .int a2)]) hx hb dJ7_fill_53178_1 rfl hl (by decide) rfl (fun ls_6 hl_6 => ?_)
  clear hl
  refine lv_aload_n hx hb dJ7_fill_53178_2 rfl (lv_at hl_6 1 rfl) ?_
  refine k_alen (v := 23328) (t := 0) hx hb hK hO (by decide) rfl rfl rfl dJ7_fill_53178_3 ?_
  refine lv_istore_n (lv' := [(3, .int 23328), (2, .int 0), (0, .ref (L 7)), (1, .int a2)]) hx hb dJ7_fill_53178_4 rfl hl_6 (by decide) rfl (fun ls_7 hl_7 => ?_)
  clear hl_6
  exact wJ7_fill_VAL_5 hL F  fuel _ _ _ _  _ _ _ hO (lv_sub hl_7 [2, 3, 1, 0] rfl) hf
def fJ7_fill_RES_5   : Nat → Int32 → Int32 → Int32 → XM → Option XM
  | 0, _, _, _, _ => none
  | n + 1, x1, x2, x3, X => if x3 ≤ x2 then some X else zd x2 23328 (zl (xup X 15 (Int32.toNatClampNeg x2) x1) (fun X_3 => fJ7_fill_RES_5 n x1 (x2 + 1) x3 X_3))
set_option maxHeartbeats 4000000 in
set_option maxRecDepth 100000 in
theorem wJ7_fill_RES_5 {p : Program} {l : Launch} {e : Env} {s : State} {m : MethodId} {args : Array Value} {below : List Frame} {meth : Method} {c : Code} {D : va_G} {L : Nat → Nat} {ac : Nat → ClassId} {X0 : XM} (hL : LL L) (F : Fx p s m args meth c cJ7_fill_53178 4 none wsJ7_fill_53178 yJ7_fill_53178.cls D ac) : ∀ (n : Nat) (x1 : Int32) (x2 : Int32) (x3 : Int32) (X : XM) (H : Heap) (locs : List Loc) (ls : Array Slot), Oh D L ac X (fr L) s.heap H locs → lv_has ls 4 [(0, .ref (L 8)), (1, .int x1), (2, .int x2), (3, .int x3)] → fJ7_fill_RES_5 n x1 x2 x3 X = some X0 → W p l e (headSpec wsJ7_fill_53178 ({ frames := 0, cells := 0, slots := 0, locals := 0 })).room s m args below meth c H locs 0 0 (MQ below (va_Qv (fun (Y : XM) => Y = X0) (fun (Y : XM) t => St D L ac Y t) (fr L)) args s 0 0 (fr L)) (F0 m 5 ls []) := by
  obtain ⟨hx, hb, hr, hts, hown, hlocks, hml, hK, hN⟩ := id F
  have hA : ∀ q, fr L q → fr L q := fun q h => h
  intro n
  induction n with
  | zero => intro x1 x2 x3 X H locs ls hO hl hf; simp [fJ7_fill_RES_5] at hf
  | succ n ih =>
    intro x1 x2 x3 X H locs ls hO hl hf
    rw [fJ7_fill_RES_5] at hf
    refine lv_iload_n hx hb dJ7_fill_53178_5 rfl (lv_at hl 2 rfl) ?_
    refine lv_iload_n hx hb dJ7_fill_53178_6 rfl (lv_at hl 3 rfl) ?_
    refine lv_icmp_ge (tgt := 20) hx hb dJ7_fill_53178_7 (by decide) (fun c_1 => ?_) (fun c_1 => ?_)
    · rw [if_pos c_1] at hf
      obtain rfl := Option.some.inj hf
      exact e_v hx hb hr hK hN hO hlocks dJ7_fill_53178_20
    · rw [if_neg c_1] at hf
      refine lv_aload_n hx hb dJ7_fill_53178_10 rfl (lv_at hl 0 rfl) ?_
      refine lv_iload_n hx hb dJ7_fill_53178_11 rfl (lv_at hl 2 rfl) ?_
      refine lv_iload_n hx hb dJ7_fill_53178_12 rfl (lv_at hl 1 rfl) ?_
      replace hf := zd_some hf
      obtain ⟨hi_2, hf⟩ := hf
      refine k_iast hx hb hK hL hA hO (by decide) (by decide) rfl (fun _ => rfl) hi_2 dJ7_fill_53178_13 (fun H_4 locs_4 hO_4 => ?_)
      replace hf := zl_some hf
      obtain ⟨X_3, hX_3, hf⟩ := hf
      have hQ_4 := zo_eq hX_3 hO_4
      clear hO_4 hO
      refine lv_iinc (v := x2 + 1) (lv' := [(2, .int (x2 + 1)), (0, .ref (L 8)), (1, .int x1), (3, .int x3)]) hx hb dJ7_fill_53178_14 hl (k := 2) rfl rfl (by decide) rfl (fun ls_5 hl_5 => ?_)
      clear hl
      refine lv_goto (tgt := 5) hx hb dJ7_fill_53178_17 (by decide) ?_
      exact ih _ _ _ _  _ _ _ hQ_4 (lv_sub hl_5 [1, 2, 0, 3] rfl) hf
def fJ7_fill_RES  (a2 : Int32) (X : XM) : Option XM := fJ7_fill_RES_5 fuel a2 0 23328 X
set_option maxHeartbeats 4000000 in
set_option maxRecDepth 100000 in
theorem mJ7_fill_RES (l : Launch) (D : va_G) (L : Nat → Nat) (ac : Nat → ClassId) (hL : LL L) (X : XM) (a2 : Int32) (X0 : XM) (hf : fJ7_fill_RES a2 X = some X0) : Cv l yJ7_fill_53178 wsJ7_fill_53178 ({ frames := 0, cells := 0, slots := 0, locals := 0 }) D L ac X [.ref (L 8), .int a2] X0 := by
  refine Met.ofK (cc := cJ7_fill_53178) (maxL := 4) (ret := none) (lv := [(0, .ref (L 8)), (1, .int a2)]) (by decide +kernel) rfl (Nat.le_of_ble_eq_true rfl) rfl ?_
  intro p e s m below meth c F hO ls hl
  obtain ⟨hx, hb, hr, hts, hown, hlocks, hml, hK, hN⟩ := id F
  have hA : ∀ q, fr L q → fr L q := fun q h => h
  unfold fJ7_fill_RES at hf
  refine lv_iconst (v := 0) hx hb dJ7_fill_53178_0 (by decide) ?_
  refine lv_istore_n (lv' := [(2, .int 0), (0, .ref (L 8)), (1, .int a2)]) hx hb dJ7_fill_53178_1 rfl hl (by decide) rfl (fun ls_6 hl_6 => ?_)
  clear hl
  refine lv_aload_n hx hb dJ7_fill_53178_2 rfl (lv_at hl_6 1 rfl) ?_
  refine k_alen (v := 23328) (t := 0) hx hb hK hO (by decide) rfl rfl rfl dJ7_fill_53178_3 ?_
  refine lv_istore_n (lv' := [(3, .int 23328), (2, .int 0), (0, .ref (L 8)), (1, .int a2)]) hx hb dJ7_fill_53178_4 rfl hl_6 (by decide) rfl (fun ls_7 hl_7 => ?_)
  clear hl_6
  exact wJ7_fill_RES_5 hL F  fuel _ _ _ _  _ _ _ hO (lv_sub hl_7 [2, 3, 1, 0] rfl) hf
theorem nx_field_X7_66 : Cond.fieldLinkNest "PoisonPiles$Solver" 66 "PoisonPiles$Game" "piles" "[LPoisonPiles$Pile;" "PoisonPiles" ∈ nxW := List.mem_of_getElem? (i := 23) rfl
theorem nx_field_X7_72 : Cond.fieldLinkNest "PoisonPiles$Solver" 72 "PoisonPiles$Pile" "tokens" "I" "PoisonPiles" ∈ nxW := List.mem_of_getElem? (i := 9) rfl
theorem nx_field_X7_77 : Cond.fieldLinkNest "PoisonPiles$Solver" 77 "PoisonPiles$Game" "passAhead" "Z" "PoisonPiles" ∈ nxW := List.mem_of_getElem? (i := 31) rfl
theorem nx_field_X7_81 : Cond.fieldLinkNest "PoisonPiles$Solver" 81 "PoisonPiles$Game" "mover" "I" "PoisonPiles" ∈ nxW := List.mem_of_getElem? (i := 28) rfl
theorem nx_field_X7_88 : Cond.fieldLinkNest "PoisonPiles$Solver" 88 "PoisonPiles$Player" "passesLeft" "I" "PoisonPiles" ∈ nxW := List.mem_of_getElem? (i := 4) rfl
theorem nx_field_X7_93 : Cond.fieldLinkNest "PoisonPiles$Solver" 93 "PoisonPiles$Game" "takes" "I" "PoisonPiles" ∈ nxW := List.mem_of_getElem? (i := 19) rfl
theorem nx_field_X7_96 : Cond.fieldLinkNest "PoisonPiles$Solver" 96 "PoisonPiles$Game" "bonus" "I" "PoisonPiles" ∈ nxW := List.mem_of_getElem? (i := 21) rfl
theorem nx_field_X7_99 : Cond.fieldLinkNest "PoisonPiles$Solver" 99 "PoisonPiles$Pile" "worth" "I" "PoisonPiles" ∈ nxW := List.mem_of_getElem? (i := 13) rfl
theorem nx_field_X7_102 : Cond.fieldLinkNest "PoisonPiles$Solver" 102 "PoisonPiles$Pile" "poisoned" "Z" "PoisonPiles" ∈ nxW := List.mem_of_getElem? (i := 16) rfl
theorem nx_method_X7_47 : Cond.methodLinkNest "PoisonPiles$Solver" 47 ⟨"PoisonPiles", "isIn", "(II)Z"⟩ "PoisonPiles" ∈ nxW := List.mem_of_getElem? (i := 69) rfl
theorem nx_method_X7_84 : Cond.methodLinkNest "PoisonPiles$Solver" 84 ⟨"PoisonPiles$Game", "player", "(I)LPoisonPiles$Player;"⟩ "PoisonPiles" ∈ nxW := List.mem_of_getElem? (i := 67) rfl
theorem nx_method_X7_119 : Cond.methodLinkNest "PoisonPiles$Solver" 119 ⟨"PoisonPiles", "takeMove", "(II)I"⟩ "PoisonPiles" ∈ nxW := List.mem_of_getElem? (i := 66) rfl
theorem nx_method_X7_123 : Cond.methodLinkNest "PoisonPiles$Solver" 123 ⟨"PoisonPiles", "takesOutOf", "(III)I"⟩ "PoisonPiles" ∈ nxW := List.mem_of_getElem? (i := 68) rfl
def fX7_isSpot  (a1 : Int32) (a2 : Int32) (X : XM) : Option (Int32 × XM) := if a1 < 0 then some (0, X) else if 23328 ≤ a1 then some (0, X) else if 24 < a2 then some (0, X) else some (1, X)
set_option maxHeartbeats 4000000 in
set_option maxRecDepth 100000 in
theorem mX7_isSpot (l : Launch) (D : va_G) (L : Nat → Nat) (ac : Nat → ClassId) (hL : LL L) (X : XM) (a1 : Int32) (a2 : Int32) (r0 : Int32) (X0 : XM) (hf : fX7_isSpot a1 a2 X = some (r0, X0)) : Ci l yX7_isSpot wsX7_isSpot ({ frames := 0, cells := 0, slots := 0, locals := 0 }) D L ac X [.int a1, .int a2] r0 X0 := by
  refine Met.ofK (cc := cX7_isSpot) (maxL := 2) (ret := (some .boolean)) (lv := [(0, .int a1), (1, .int a2)]) (by decide +kernel) rfl (Nat.le_of_ble_eq_true rfl) rfl ?_
  intro p e s m below meth c F hO ls hl
  obtain ⟨hx, hb, hr, hts, hown, hlocks, hml, hK, hN⟩ := id F
  have hA : ∀ q, fr L q → fr L q := fun q h => h
  unfold fX7_isSpot at hf
  refine lv_iload_n hx hb dX7_isSpot_0 rfl (lv_at hl 0 rfl) ?_
  refine lv_if_lt (tgt := 21) hx hb dX7_isSpot_1 (by decide) (fun c_1 => ?_) (fun c_1 => ?_)
  · rw [if_pos c_1] at hf
    refine lv_iconst (v := 0) hx hb dX7_isSpot_21 (by decide) ?_
    obtain ⟨rfl, rfl⟩ := Prod.mk.inj (Option.some.inj hf)
    exact e_n hx hb hr (bo_n (by decide)) hK hN hO hlocks dX7_isSpot_22
  · rw [if_neg c_1] at hf
    refine lv_iload_n hx hb dX7_isSpot_4 rfl (lv_at hl 0 rfl) ?_
    refine lv_sipush (v := 23328) hx hb dX7_isSpot_5 (by decide) ?_
    refine lv_icmp_ge (tgt := 21) hx hb dX7_isSpot_8 (by decide) (fun c_2 => ?_) (fun c_2 => ?_)
    · rw [if_pos c_2] at hf
      refine lv_iconst (v := 0) hx hb dX7_isSpot_21 (by decide) ?_
      obtain ⟨rfl, rfl⟩ := Prod.mk.inj (Option.some.inj hf)
      exact e_n hx hb hr (bo_n (by decide)) hK hN hO hlocks dX7_isSpot_22
    · rw [if_neg c_2] at hf
      refine lv_iload_n hx hb dX7_isSpot_11 rfl (lv_at hl 1 rfl) ?_
      refine lv_bipush (v := 24) hx hb dX7_isSpot_12 (by decide) ?_
      refine lv_icmp_gt (tgt := 21) hx hb dX7_isSpot_14 (by decide) (fun c_3 => ?_) (fun c_3 => ?_)
      · rw [if_pos c_3] at hf
        refine lv_iconst (v := 0) hx hb dX7_isSpot_21 (by decide) ?_
        obtain ⟨rfl, rfl⟩ := Prod.mk.inj (Option.some.inj hf)
        exact e_n hx hb hr (bo_n (by decide)) hK hN hO hlocks dX7_isSpot_22
      · rw [if_neg c_3] at hf
        refine lv_iconst (v := 1) hx hb dX7_isSpot_17 (by decide) ?_
        refine lv_goto (tgt := 22) hx hb dX7_isSpot_18 (by decide) ?_
        obtain ⟨rfl, rfl⟩ := Prod.mk.inj (Option.some.inj hf)
        exact e_n hx hb hr (bo_n (by decide)) hK hN hO hlocks dX7_isSpot_22
theorem in_X7_movesAt_X7 : ∀ w ∈ u_ws RX7 TX7 8, w ∈ wsX7_movesAt := by decide +kernel
theorem lk_X7_movesAt_c122 : Cond.constant RX7 122 (1048576) ∈ wsX7_movesAt := by decide +kernel
theorem lk_X7_movesAt_f111 : Cond.fieldLink RX7 111 "PoisonPiles$Solver" "takes" "I" ∈ wsX7_movesAt := by decide +kernel
theorem lk_X7_movesAt_iX8 : Cond.initialized RX8 ∈ wsX7_movesAt := by decide +kernel
theorem lk_X7_movesAt_sX8_takesOutOf : Cond.static yX8_takesOutOf ∈ wsX7_movesAt := by decide +kernel
def fX7_movesAt  (a1 : Int32) (X : XM) : Option (Int32 × XM) := zl (a1 / 18) (fun v_1 => if (o_rem (a1 / 9) 2) = 1 then if v_1 ≤ 0 then zi (fX8_takesOutOf (o_rem v_1 6) (X 13 0) 0 X) (fun r_56 X_55 => zl (0 ||| r_56) (fun v_58 => zl (v_1 / 6) (fun v_60 => zi (fX8_takesOutOf (o_rem v_60 6) (X_55 13 0) 1 X_55) (fun r_65 X_64 => zl (v_58 ||| r_65) (fun v_67 => zl (v_60 / 6) (fun v_69 => zi (fX8_takesOutOf (o_rem v_69 6) (X_64 13 0) 2 X_64) (fun r_74 X_73 => zl (v_67 ||| r_74) (fun v_76 => zl (v_69 / 6) (fun v_78 => zi (fX8_takesOutOf (o_rem v_78 6) (X_73 13 0) 3 X_73) (fun r_83 X_82 => zl (v_76 ||| r_83) (fun v_85 => zl (v_78 / 6) (fun v_87 => some (v_85, X_82))))))))))))) else if (o_rem (a1 / 3) 3) ≤ 0 then zi (fX8_takesOutOf (o_rem v_1 6) (X 13 0) 0 X) (fun r_98 X_97 => zl (0 ||| r_98) (fun v_100 => zl (v_1 / 6) (fun v_102 => zi (fX8_takesOutOf (o_rem v_102 6) (X_97 13 0) 1 X_97) (fun r_107 X_106 => zl (v_100 ||| r_107) (fun v_109 => zl (v_102 / 6) (fun v_111 => zi (fX8_takesOutOf (o_rem v_111 6) (X_106 13 0) 2 X_106) (fun r_116 X_115 => zl (v_109 ||| r_116) (fun v_118 => zl (v_111 / 6) (fun v_120 => zi (fX8_takesOutOf (o_rem v_120 6) (X_115 13 0) 3 X_115) (fun r_125 X_124 => zl (v_118 ||| r_125) (fun v_127 => zl (v_120 / 6) (fun v_129 => some (v_127, X_124))))))))))))) else zi (fX8_takesOutOf (o_rem v_1 6) (X 13 0) 0 X) (fun r_139 X_138 => zl (1048576 ||| r_139) (fun v_141 => zl (v_1 / 6) (fun v_143 => zi (fX8_takesOutOf (o_rem v_143 6) (X_138 13 0) 1 X_138) (fun r_148 X_147 => zl (v_141 ||| r_148) (fun v_150 => zl (v_143 / 6) (fun v_152 => zi (fX8_takesOutOf (o_rem v_152 6) (X_147 13 0) 2 X_147) (fun r_157 X_156 => zl (v_150 ||| r_157) (fun v_159 => zl (v_152 / 6) (fun v_161 => zi (fX8_takesOutOf (o_rem v_161 6) (X_156 13 0) 3 X_156) (fun r_166 X_165 => zl (v_159 ||| r_166) (fun v_168 => zl (v_161 / 6) (fun v_170 => some (v_168, X_165))))))))))))) else zi (fX8_takesOutOf (o_rem v_1 6) (X 13 0) 0 X) (fun r_12 X_11 => zl (0 ||| r_12) (fun v_14 => zl (v_1 / 6) (fun v_16 => zi (fX8_takesOutOf (o_rem v_16 6) (X_11 13 0) 1 X_11) (fun r_21 X_20 => zl (v_14 ||| r_21) (fun v_23 => zl (v_16 / 6) (fun v_25 => zi (fX8_takesOutOf (o_rem v_25 6) (X_20 13 0) 2 X_20) (fun r_30 X_29 => zl (v_23 ||| r_30) (fun v_32 => zl (v_25 / 6) (fun v_34 => zi (fX8_takesOutOf (o_rem v_34 6) (X_29 13 0) 3 X_29) (fun r_39 X_38 => zl (v_32 ||| r_39) (fun v_41 => zl (v_34 / 6) (fun v_43 => some (v_41, X_38))))))))))))))
set_option maxHeartbeats 4000000 in
set_option maxRecDepth 100000 in
theorem mX7_movesAt (l : Launch) (D : va_G) (L : Nat → Nat) (ac : Nat → ClassId) (hL : LL L) (X : XM) (a1 : Int32) (r0 : Int32) (X0 : XM) (hf : fX7_movesAt a1 X = some (r0, X0)) : Ci l yX7_movesAt wsX7_movesAt ({ frames := 1, cells := 0, slots := 0, locals := 22 }) D L ac X [.ref (L 6), .int a1] r0 X0 := by
  refine Met.ofK (cc := cX7_movesAt) (maxL := 7) (ret := (some .int)) (lv := [(0, .ref (L 6)), (1, .int a1)]) (by decide +kernel) rfl (Nat.le_of_ble_eq_true rfl) rfl ?_
  intro p e s m below meth c F hO ls hl
  obtain ⟨hx, hb, hr, hts, hown, hlocks, hml, hK, hN⟩ := id F
  have hA : ∀ q, fr L q → fr L q := fun q h => h
  unfold fX7_movesAt at hf
  refine lv_iload_n hx hb dX7_movesAt_0 rfl (lv_at hl 1 rfl) ?_
  refine lv_bipush (v := 18) hx hb dX7_movesAt_1 (by decide) ?_
  refine lv_idiv hx hb dX7_movesAt_3 (by decide) ?_
  replace hf := zl_some hf
  obtain ⟨v_1, hv_1, hf⟩ := hf
  refine lv_tope hv_1 ?_
  refine lv_istore_n (lv' := [(2, .int v_1), (0, .ref (L 6)), (1, .int a1)]) hx hb dX7_movesAt_4 rfl hl (by decide) rfl (fun ls_2 hl_2 => ?_)
  clear hl
  refine lv_iload_n hx hb dX7_movesAt_5 rfl (lv_at hl_2 2 rfl) ?_
  refine lv_bipush (v := 9) hx hb dX7_movesAt_6 (by decide) ?_
  refine lv_idiv hx hb dX7_movesAt_8 (by decide) ?_
  refine lv_iconst (v := 2) hx hb dX7_movesAt_9 (by decide) ?_
  refine lv_irem hx hb dX7_movesAt_10 (by decide) ?_
  refine lv_iconst (v := 1) hx hb dX7_movesAt_11 (by decide) ?_
  refine lv_icmp_ne (tgt := 19) hx hb dX7_movesAt_12 (by decide) (fun c_3 => ?_) (fun c_3 => ?_)
  · rw [if_neg c_3] at hf
    refine lv_iconst (v := 0) hx hb dX7_movesAt_19 (by decide) ?_
    refine lv_istore_n (lv' := [(3, .int 0), (2, .int v_1), (0, .ref (L 6)), (1, .int a1)]) hx hb dX7_movesAt_20 rfl hl_2 (by decide) rfl (fun ls_4 hl_4 => ?_)
    clear hl_2
    refine lv_iload_n hx hb dX7_movesAt_21 rfl (lv_at hl_4 0 rfl) ?_
    refine lv_if_eq (tgt := 41) hx hb dX7_movesAt_22 (by decide) (fun _ => ?_) (fun c_5 => absurd (by decide) c_5)
    refine lv_iconst (v := 0) hx hb dX7_movesAt_41 (by decide) ?_
    refine lv_istore (lv' := [(4, .int 0), (3, .int 0), (2, .int v_1), (0, .ref (L 6)), (1, .int a1)]) hx hb dX7_movesAt_42 hl_4 (by decide) rfl (fun ls_6 hl_6 => ?_)
    clear hl_4
    refine lv_iload hx hb dX7_movesAt_44 (lv_at hl_6 0 rfl) ?_
    refine lv_if_eq (tgt := 54) hx hb dX7_movesAt_46 (by decide) (fun _ => ?_) (fun c_7 => absurd (by decide) c_7)
    refine lv_iconst (v := 0) hx hb dX7_movesAt_54 (by decide) ?_
    refine lv_istore (lv' := [(5, .int 0), (4, .int 0), (3, .int 0), (2, .int v_1), (0, .ref (L 6)), (1, .int a1)]) hx hb dX7_movesAt_55 hl_6 (by decide) rfl (fun ls_8 hl_8 => ?_)
    clear hl_6
    refine lv_iconst (v := 0) hx hb dX7_movesAt_57 (by decide) ?_
    refine lv_istore (lv' := [(6, .int 0), (5, .int 0), (4, .int 0), (3, .int 0), (2, .int v_1), (0, .ref (L 6)), (1, .int a1)]) hx hb dX7_movesAt_58 hl_8 (by decide) rfl (fun ls_9 hl_9 => ?_)
    clear hl_8
    refine lv_iload hx hb dX7_movesAt_60 (lv_at hl_9 0 rfl) ?_
    refine lv_iconst (v := 4) hx hb dX7_movesAt_62 (by decide) ?_
    refine lv_icmp_ge (tgt := 95) hx hb dX7_movesAt_63 (by decide) (fun c_10 => absurd c_10 (by decide)) (fun _ => ?_)
    refine lv_iload hx hb dX7_movesAt_66 (lv_at hl_9 1 rfl) ?_
    refine lv_iload_n hx hb dX7_movesAt_68 rfl (lv_at hl_9 4 rfl) ?_
    refine lv_bipush (v := 6) hx hb dX7_movesAt_69 (by decide) ?_
    refine lv_irem hx hb dX7_movesAt_71 (by decide) ?_
    refine lv_aload_n hx hb dX7_movesAt_72 rfl (lv_at hl_9 5 rfl) ?_
    refine k_get (k := 4) (v := .int (X 13 0)) hx hb hts in_X7_movesAt_X7 hown hK hO (by decide) rfl rfl (by decide) lk_X7_movesAt_f111 rfl dX7_movesAt_73 ?_
    refine lv_iload hx hb dX7_movesAt_76 (lv_at hl_9 0 rfl) ?_
    replace hf := zi_some hf
    obtain ⟨r_12, X_11, hc_11, hf⟩ := hf
    refine k_ai (va_runSN (As := [.int (o_rem v_1 6), .int (X 13 0), .int 0]) (rest := [.int 0]) ⟨hx, hb, hml, hown, hts⟩ (mX8_takesOutOf l D L ac hL _ (o_rem v_1 6) (X 13 0) 0 _ _ hc_11) ⟨va_cnB 3 hts gX7_movesAt_X8_takesOutOf_n123 rfl rfl rfl (hN _ nx_method_X7_123) (hts _ lk_X7_movesAt_iX8) (by decide +kernel) ⟨Nat.le_of_ble_eq_true rfl, Nat.le_of_ble_eq_true rfl⟩, hts _ lk_X7_movesAt_sX8_takesOutOf, trivial⟩ (k_ps hK hN hO _) rfl rfl hl_9.1 rfl (lv_room (Nat.le_of_ble_eq_true rfl)) dX7_movesAt_78 ⟨Nat.le_of_ble_eq_true rfl, Nat.le_of_ble_eq_true rfl⟩) hA hO (fun H_13 locs_13 hO_13 => ?_)
    clear hO
    refine lv_ior hx hb dX7_movesAt_81 ?_
    replace hf := zl_some hf
    obtain ⟨v_14, hv_14, hf⟩ := hf
    refine lv_tope hv_14 ?_
    refine lv_istore (lv' := [(5, .int v_14), (6, .int 0), (4, .int 0), (3, .int 0), (2, .int v_1), (0, .ref (L 6)), (1, .int a1)]) hx hb dX7_movesAt_82 hl_9 (by decide) rfl (fun ls_15 hl_15 => ?_)
    clear hl_9
    refine lv_iload_n hx hb dX7_movesAt_84 rfl (lv_at hl_15 4 rfl) ?_
    refine lv_bipush (v := 6) hx hb dX7_movesAt_85 (by decide) ?_
    refine lv_idiv hx hb dX7_movesAt_87 (by decide) ?_
    replace hf := zl_some hf
    obtain ⟨v_16, hv_16, hf⟩ := hf
    refine lv_tope hv_16 ?_
    refine lv_istore_n (lv' := [(2, .int v_16), (5, .int v_14), (6, .int 0), (4, .int 0), (3, .int 0), (0, .ref (L 6)), (1, .int a1)]) hx hb dX7_movesAt_88 rfl hl_15 (by decide) rfl (fun ls_17 hl_17 => ?_)
    clear hl_15
    refine lv_iinc (v := 1) (lv' := [(6, .int 1), (2, .int v_16), (5, .int v_14), (4, .int 0), (3, .int 0), (0, .ref (L 6)), (1, .int a1)]) hx hb dX7_movesAt_89 hl_17 (k := 2) rfl (by decide) (by decide) rfl (fun ls_18 hl_18 => ?_)
    clear hl_17
    refine lv_goto (tgt := 60) hx hb dX7_movesAt_92 (by decide) ?_
    refine lv_iload hx hb dX7_movesAt_60 (lv_at hl_18 0 rfl) ?_
    refine lv_iconst (v := 4) hx hb dX7_movesAt_62 (by decide) ?_
    refine lv_icmp_ge (tgt := 95) hx hb dX7_movesAt_63 (by decide) (fun c_19 => absurd c_19 (by decide)) (fun _ => ?_)
    refine lv_iload hx hb dX7_movesAt_66 (lv_at hl_18 2 rfl) ?_
    refine lv_iload_n hx hb dX7_movesAt_68 rfl (lv_at hl_18 1 rfl) ?_
    refine lv_bipush (v := 6) hx hb dX7_movesAt_69 (by decide) ?_
    refine lv_irem hx hb dX7_movesAt_71 (by decide) ?_
    refine lv_aload_n hx hb dX7_movesAt_72 rfl (lv_at hl_18 5 rfl) ?_
    refine k_get (k := 4) (v := .int (X_11 13 0)) hx hb hts in_X7_movesAt_X7 hown hK hO_13 (by decide) rfl rfl (by decide) lk_X7_movesAt_f111 rfl dX7_movesAt_73 ?_
    refine lv_iload hx hb dX7_movesAt_76 (lv_at hl_18 0 rfl) ?_
    replace hf := zi_some hf
    obtain ⟨r_21, X_20, hc_20, hf⟩ := hf
    refine k_ai (va_runSN (As := [.int (o_rem v_16 6), .int (X_11 13 0), .int 1]) (rest := [.int v_14]) ⟨hx, hb, hml, hown, hts⟩ (mX8_takesOutOf l D L ac hL _ (o_rem v_16 6) (X_11 13 0) 1 _ _ hc_20) ⟨va_cnB 3 hts gX7_movesAt_X8_takesOutOf_n123 rfl rfl rfl (hN _ nx_method_X7_123) (hts _ lk_X7_movesAt_iX8) (by decide +kernel) ⟨Nat.le_of_ble_eq_true rfl, Nat.le_of_ble_eq_true rfl⟩, hts _ lk_X7_movesAt_sX8_takesOutOf, trivial⟩ (k_ps hK hN hO_13 _) rfl rfl hl_18.1 rfl (lv_room (Nat.le_of_ble_eq_true rfl)) dX7_movesAt_78 ⟨Nat.le_of_ble_eq_true rfl, Nat.le_of_ble_eq_true rfl⟩) hA hO_13 (fun H_22 locs_22 hO_22 => ?_)
    clear hO_13
    refine lv_ior hx hb dX7_movesAt_81 ?_
    replace hf := zl_some hf
    obtain ⟨v_23, hv_23, hf⟩ := hf
    refine lv_tope hv_23 ?_
    refine lv_istore (lv' := [(5, .int v_23), (6, .int 1), (2, .int v_16), (4, .int 0), (3, .int 0), (0, .ref (L 6)), (1, .int a1)]) hx hb dX7_movesAt_82 hl_18 (by decide) rfl (fun ls_24 hl_24 => ?_)
    clear hl_18
    refine lv_iload_n hx hb dX7_movesAt_84 rfl (lv_at hl_24 2 rfl) ?_
    refine lv_bipush (v := 6) hx hb dX7_movesAt_85 (by decide) ?_
    refine lv_idiv hx hb dX7_movesAt_87 (by decide) ?_
    replace hf := zl_some hf
    obtain ⟨v_25, hv_25, hf⟩ := hf
    refine lv_tope hv_25 ?_
    refine lv_istore_n (lv' := [(2, .int v_25), (5, .int v_23), (6, .int 1), (4, .int 0), (3, .int 0), (0, .ref (L 6)), (1, .int a1)]) hx hb dX7_movesAt_88 rfl hl_24 (by decide) rfl (fun ls_26 hl_26 => ?_)
    clear hl_24
    refine lv_iinc (v := 2) (lv' := [(6, .int 2), (2, .int v_25), (5, .int v_23), (4, .int 0), (3, .int 0), (0, .ref (L 6)), (1, .int a1)]) hx hb dX7_movesAt_89 hl_26 (k := 2) rfl (by decide) (by decide) rfl (fun ls_27 hl_27 => ?_)
    clear hl_26
    refine lv_goto (tgt := 60) hx hb dX7_movesAt_92 (by decide) ?_
    refine lv_iload hx hb dX7_movesAt_60 (lv_at hl_27 0 rfl) ?_
    refine lv_iconst (v := 4) hx hb dX7_movesAt_62 (by decide) ?_
    refine lv_icmp_ge (tgt := 95) hx hb dX7_movesAt_63 (by decide) (fun c_28 => absurd c_28 (by decide)) (fun _ => ?_)
    refine lv_iload hx hb dX7_movesAt_66 (lv_at hl_27 2 rfl) ?_
    refine lv_iload_n hx hb dX7_movesAt_68 rfl (lv_at hl_27 1 rfl) ?_
    refine lv_bipush (v := 6) hx hb dX7_movesAt_69 (by decide) ?_
    refine lv_irem hx hb dX7_movesAt_71 (by decide) ?_
    refine lv_aload_n hx hb dX7_movesAt_72 rfl (lv_at hl_27 5 rfl) ?_
    refine k_get (k := 4) (v := .int (X_20 13 0)) hx hb hts in_X7_movesAt_X7 hown hK hO_22 (by decide) rfl rfl (by decide) lk_X7_movesAt_f111 rfl dX7_movesAt_73 ?_
    refine lv_iload hx hb dX7_movesAt_76 (lv_at hl_27 0 rfl) ?_
    replace hf := zi_some hf
    obtain ⟨r_30, X_29, hc_29, hf⟩ := hf
    refine k_ai (va_runSN (As := [.int (o_rem v_25 6), .int (X_20 13 0), .int 2]) (rest := [.int v_23]) ⟨hx, hb, hml, hown, hts⟩ (mX8_takesOutOf l D L ac hL _ (o_rem v_25 6) (X_20 13 0) 2 _ _ hc_29) ⟨va_cnB 3 hts gX7_movesAt_X8_takesOutOf_n123 rfl rfl rfl (hN _ nx_method_X7_123) (hts _ lk_X7_movesAt_iX8) (by decide +kernel) ⟨Nat.le_of_ble_eq_true rfl, Nat.le_of_ble_eq_true rfl⟩, hts _ lk_X7_movesAt_sX8_takesOutOf, trivial⟩ (k_ps hK hN hO_22 _) rfl rfl hl_27.1 rfl (lv_room (Nat.le_of_ble_eq_true rfl)) dX7_movesAt_78 ⟨Nat.le_of_ble_eq_true rfl, Nat.le_of_ble_eq_true rfl⟩) hA hO_22 (fun H_31 locs_31 hO_31 => ?_)
    clear hO_22
    refine lv_ior hx hb dX7_movesAt_81 ?_
    replace hf := zl_some hf
    obtain ⟨v_32, hv_32, hf⟩ := hf
    refine lv_tope hv_32 ?_
    refine lv_istore (lv' := [(5, .int v_32), (6, .int 2), (2, .int v_25), (4, .int 0), (3, .int 0), (0, .ref (L 6)), (1, .int a1)]) hx hb dX7_movesAt_82 hl_27 (by decide) rfl (fun ls_33 hl_33 => ?_)
    clear hl_27
    refine lv_iload_n hx hb dX7_movesAt_84 rfl (lv_at hl_33 2 rfl) ?_
    refine lv_bipush (v := 6) hx hb dX7_movesAt_85 (by decide) ?_
    refine lv_idiv hx hb dX7_movesAt_87 (by decide) ?_
    replace hf := zl_some hf
    obtain ⟨v_34, hv_34, hf⟩ := hf
    refine lv_tope hv_34 ?_
    refine lv_istore_n (lv' := [(2, .int v_34), (5, .int v_32), (6, .int 2), (4, .int 0), (3, .int 0), (0, .ref (L 6)), (1, .int a1)]) hx hb dX7_movesAt_88 rfl hl_33 (by decide) rfl (fun ls_35 hl_35 => ?_)
    clear hl_33
    refine lv_iinc (v := 3) (lv' := [(6, .int 3), (2, .int v_34), (5, .int v_32), (4, .int 0), (3, .int 0), (0, .ref (L 6)), (1, .int a1)]) hx hb dX7_movesAt_89 hl_35 (k := 2) rfl (by decide) (by decide) rfl (fun ls_36 hl_36 => ?_)
    clear hl_35
    refine lv_goto (tgt := 60) hx hb dX7_movesAt_92 (by decide) ?_
    refine lv_iload hx hb dX7_movesAt_60 (lv_at hl_36 0 rfl) ?_
    refine lv_iconst (v := 4) hx hb dX7_movesAt_62 (by decide) ?_
    refine lv_icmp_ge (tgt := 95) hx hb dX7_movesAt_63 (by decide) (fun c_37 => absurd c_37 (by decide)) (fun _ => ?_)
    refine lv_iload hx hb dX7_movesAt_66 (lv_at hl_36 2 rfl) ?_
    refine lv_iload_n hx hb dX7_movesAt_68 rfl (lv_at hl_36 1 rfl) ?_
    refine lv_bipush (v := 6) hx hb dX7_movesAt_69 (by decide) ?_
    refine lv_irem hx hb dX7_movesAt_71 (by decide) ?_
    refine lv_aload_n hx hb dX7_movesAt_72 rfl (lv_at hl_36 5 rfl) ?_
    refine k_get (k := 4) (v := .int (X_29 13 0)) hx hb hts in_X7_movesAt_X7 hown hK hO_31 (by decide) rfl rfl (by decide) lk_X7_movesAt_f111 rfl dX7_movesAt_73 ?_
    refine lv_iload hx hb dX7_movesAt_76 (lv_at hl_36 0 rfl) ?_
    replace hf := zi_some hf
    obtain ⟨r_39, X_38, hc_38, hf⟩ := hf
    refine k_ai (va_runSN (As := [.int (o_rem v_34 6), .int (X_29 13 0), .int 3]) (rest := [.int v_32]) ⟨hx, hb, hml, hown, hts⟩ (mX8_takesOutOf l D L ac hL _ (o_rem v_34 6) (X_29 13 0) 3 _ _ hc_38) ⟨va_cnB 3 hts gX7_movesAt_X8_takesOutOf_n123 rfl rfl rfl (hN _ nx_method_X7_123) (hts _ lk_X7_movesAt_iX8) (by decide +kernel) ⟨Nat.le_of_ble_eq_true rfl, Nat.le_of_ble_eq_true rfl⟩, hts _ lk_X7_movesAt_sX8_takesOutOf, trivial⟩ (k_ps hK hN hO_31 _) rfl rfl hl_36.1 rfl (lv_room (Nat.le_of_ble_eq_true rfl)) dX7_movesAt_78 ⟨Nat.le_of_ble_eq_true rfl, Nat.le_of_ble_eq_true rfl⟩) hA hO_31 (fun H_40 locs_40 hO_40 => ?_)
    clear hO_31
    refine lv_ior hx hb dX7_movesAt_81 ?_
    replace hf := zl_some hf
    obtain ⟨v_41, hv_41, hf⟩ := hf
    refine lv_tope hv_41 ?_
    refine lv_istore (lv' := [(5, .int v_41), (6, .int 3), (2, .int v_34), (4, .int 0), (3, .int 0), (0, .ref (L 6)), (1, .int a1)]) hx hb dX7_movesAt_82 hl_36 (by decide) rfl (fun ls_42 hl_42 => ?_)
    clear hl_36
    refine lv_iload_n hx hb dX7_movesAt_84 rfl (lv_at hl_42 2 rfl) ?_
    refine lv_bipush (v := 6) hx hb dX7_movesAt_85 (by decide) ?_
    refine lv_idiv hx hb dX7_movesAt_87 (by decide) ?_
    replace hf := zl_some hf
    obtain ⟨v_43, hv_43, hf⟩ := hf
    refine lv_tope hv_43 ?_
    refine lv_istore_n (lv' := [(2, .int v_43), (5, .int v_41), (6, .int 3), (4, .int 0), (3, .int 0), (0, .ref (L 6)), (1, .int a1)]) hx hb dX7_movesAt_88 rfl hl_42 (by decide) rfl (fun ls_44 hl_44 => ?_)
    clear hl_42
    refine lv_iinc (v := 4) (lv' := [(6, .int 4), (2, .int v_43), (5, .int v_41), (4, .int 0), (3, .int 0), (0, .ref (L 6)), (1, .int a1)]) hx hb dX7_movesAt_89 hl_44 (k := 2) rfl (by decide) (by decide) rfl (fun ls_45 hl_45 => ?_)
    clear hl_44
    refine lv_goto (tgt := 60) hx hb dX7_movesAt_92 (by decide) ?_
    refine lv_iload hx hb dX7_movesAt_60 (lv_at hl_45 0 rfl) ?_
    refine lv_iconst (v := 4) hx hb dX7_movesAt_62 (by decide) ?_
    refine lv_icmp_ge (tgt := 95) hx hb dX7_movesAt_63 (by decide) (fun _ => ?_) (fun c_46 => absurd (by decide) c_46)
    refine lv_iload hx hb dX7_movesAt_95 (lv_at hl_45 2 rfl) ?_
    obtain ⟨rfl, rfl⟩ := Prod.mk.inj (Option.some.inj hf)
    exact e_i hx hb hr hK hN hO_40 hlocks dX7_movesAt_97
  · rw [if_pos c_3] at hf
    refine lv_iconst (v := 1) hx hb dX7_movesAt_15 (by decide) ?_
    refine lv_goto (tgt := 20) hx hb dX7_movesAt_16 (by decide) ?_
    refine lv_istore_n (lv' := [(3, .int 1), (2, .int v_1), (0, .ref (L 6)), (1, .int a1)]) hx hb dX7_movesAt_20 rfl hl_2 (by decide) rfl (fun ls_47 hl_47 => ?_)
    clear hl_2
    refine lv_iload_n hx hb dX7_movesAt_21 rfl (lv_at hl_47 0 rfl) ?_
    refine lv_if_eq (tgt := 41) hx hb dX7_movesAt_22 (by decide) (fun c_48 => absurd c_48 (by decide)) (fun _ => ?_)
    refine lv_iload_n hx hb dX7_movesAt_25 rfl (lv_at hl_47 1 rfl) ?_
    refine lv_if_le (tgt := 41) hx hb dX7_movesAt_26 (by decide) (fun c_49 => ?_) (fun c_49 => ?_)
    · rw [if_pos c_49] at hf
      refine lv_iconst (v := 0) hx hb dX7_movesAt_41 (by decide) ?_
      refine lv_istore (lv' := [(4, .int 0), (3, .int 1), (2, .int v_1), (0, .ref (L 6)), (1, .int a1)]) hx hb dX7_movesAt_42 hl_47 (by decide) rfl (fun ls_50 hl_50 => ?_)
      clear hl_47
      refine lv_iload hx hb dX7_movesAt_44 (lv_at hl_50 0 rfl) ?_
      refine lv_if_eq (tgt := 54) hx hb dX7_movesAt_46 (by decide) (fun _ => ?_) (fun c_51 => absurd (by decide) c_51)
      refine lv_iconst (v := 0) hx hb dX7_movesAt_54 (by decide) ?_
      refine lv_istore (lv' := [(5, .int 0), (4, .int 0), (3, .int 1), (2, .int v_1), (0, .ref (L 6)), (1, .int a1)]) hx hb dX7_movesAt_55 hl_50 (by decide) rfl (fun ls_52 hl_52 => ?_)
      clear hl_50
      refine lv_iconst (v := 0) hx hb dX7_movesAt_57 (by decide) ?_
      refine lv_istore (lv' := [(6, .int 0), (5, .int 0), (4, .int 0), (3, .int 1), (2, .int v_1), (0, .ref (L 6)), (1, .int a1)]) hx hb dX7_movesAt_58 hl_52 (by decide) rfl (fun ls_53 hl_53 => ?_)
      clear hl_52
      refine lv_iload hx hb dX7_movesAt_60 (lv_at hl_53 0 rfl) ?_
      refine lv_iconst (v := 4) hx hb dX7_movesAt_62 (by decide) ?_
      refine lv_icmp_ge (tgt := 95) hx hb dX7_movesAt_63 (by decide) (fun c_54 => absurd c_54 (by decide)) (fun _ => ?_)
      refine lv_iload hx hb dX7_movesAt_66 (lv_at hl_53 1 rfl) ?_
      refine lv_iload_n hx hb dX7_movesAt_68 rfl (lv_at hl_53 4 rfl) ?_
      refine lv_bipush (v := 6) hx hb dX7_movesAt_69 (by decide) ?_
      refine lv_irem hx hb dX7_movesAt_71 (by decide) ?_
      refine lv_aload_n hx hb dX7_movesAt_72 rfl (lv_at hl_53 5 rfl) ?_
      refine k_get (k := 4) (v := .int (X 13 0)) hx hb hts in_X7_movesAt_X7 hown hK hO (by decide) rfl rfl (by decide) lk_X7_movesAt_f111 rfl dX7_movesAt_73 ?_
      refine lv_iload hx hb dX7_movesAt_76 (lv_at hl_53 0 rfl) ?_
      replace hf := zi_some hf
      obtain ⟨r_56, X_55, hc_55, hf⟩ := hf
      refine k_ai (va_runSN (As := [.int (o_rem v_1 6), .int (X 13 0), .int 0]) (rest := [.int 0]) ⟨hx, hb, hml, hown, hts⟩ (mX8_takesOutOf l D L ac hL _ (o_rem v_1 6) (X 13 0) 0 _ _ hc_55) ⟨va_cnB 3 hts gX7_movesAt_X8_takesOutOf_n123 rfl rfl rfl (hN _ nx_method_X7_123) (hts _ lk_X7_movesAt_iX8) (by decide +kernel) ⟨Nat.le_of_ble_eq_true rfl, Nat.le_of_ble_eq_true rfl⟩, hts _ lk_X7_movesAt_sX8_takesOutOf, trivial⟩ (k_ps hK hN hO _) rfl rfl hl_53.1 rfl (lv_room (Nat.le_of_ble_eq_true rfl)) dX7_movesAt_78 ⟨Nat.le_of_ble_eq_true rfl, Nat.le_of_ble_eq_true rfl⟩) hA hO (fun H_57 locs_57 hO_57 => ?_)
      clear hO
      refine lv_ior hx hb dX7_movesAt_81 ?_
      replace hf := zl_some hf
      obtain ⟨v_58, hv_58, hf⟩ := hf
      refine lv_tope hv_58 ?_
      refine lv_istore (lv' := [(5, .int v_58), (6, .int 0), (4, .int 0), (3, .int 1), (2, .int v_1), (0, .ref (L 6)), (1, .int a1)]) hx hb dX7_movesAt_82 hl_53 (by decide) rfl (fun ls_59 hl_59 => ?_)
      clear hl_53
      refine lv_iload_n hx hb dX7_movesAt_84 rfl (lv_at hl_59 4 rfl) ?_
      refine lv_bipush (v := 6) hx hb dX7_movesAt_85 (by decide) ?_
      refine lv_idiv hx hb dX7_movesAt_87 (by decide) ?_
      replace hf := zl_some hf
      obtain ⟨v_60, hv_60, hf⟩ := hf
      refine lv_tope hv_60 ?_
      refine lv_istore_n (lv' := [(2, .int v_60), (5, .int v_58), (6, .int 0), (4, .int 0), (3, .int 1), (0, .ref (L 6)), (1, .int a1)]) hx hb dX7_movesAt_88 rfl hl_59 (by decide) rfl (fun ls_61 hl_61 => ?_)
      clear hl_59
      refine lv_iinc (v := 1) (lv' := [(6, .int 1), (2, .int v_60), (5, .int v_58), (4, .int 0), (3, .int 1), (0, .ref (L 6)), (1, .int a1)]) hx hb dX7_movesAt_89 hl_61 (k := 2) rfl (by decide) (by decide) rfl (fun ls_62 hl_62 => ?_)
      clear hl_61
      refine lv_goto (tgt := 60) hx hb dX7_movesAt_92 (by decide) ?_
      refine lv_iload hx hb dX7_movesAt_60 (lv_at hl_62 0 rfl) ?_
      refine lv_iconst (v := 4) hx hb dX7_movesAt_62 (by decide) ?_
      refine lv_icmp_ge (tgt := 95) hx hb dX7_movesAt_63 (by decide) (fun c_63 => absurd c_63 (by decide)) (fun _ => ?_)
      refine lv_iload hx hb dX7_movesAt_66 (lv_at hl_62 2 rfl) ?_
      refine lv_iload_n hx hb dX7_movesAt_68 rfl (lv_at hl_62 1 rfl) ?_
      refine lv_bipush (v := 6) hx hb dX7_movesAt_69 (by decide) ?_
      refine lv_irem hx hb dX7_movesAt_71 (by decide) ?_
      refine lv_aload_n hx hb dX7_movesAt_72 rfl (lv_at hl_62 5 rfl) ?_
      refine k_get (k := 4) (v := .int (X_55 13 0)) hx hb hts in_X7_movesAt_X7 hown hK hO_57 (by decide) rfl rfl (by decide) lk_X7_movesAt_f111 rfl dX7_movesAt_73 ?_
      refine lv_iload hx hb dX7_movesAt_76 (lv_at hl_62 0 rfl) ?_
      replace hf := zi_some hf
      obtain ⟨r_65, X_64, hc_64, hf⟩ := hf
      refine k_ai (va_runSN (As := [.int (o_rem v_60 6), .int (X_55 13 0), .int 1]) (rest := [.int v_58]) ⟨hx, hb, hml, hown, hts⟩ (mX8_takesOutOf l D L ac hL _ (o_rem v_60 6) (X_55 13 0) 1 _ _ hc_64) ⟨va_cnB 3 hts gX7_movesAt_X8_takesOutOf_n123 rfl rfl rfl (hN _ nx_method_X7_123) (hts _ lk_X7_movesAt_iX8) (by decide +kernel) ⟨Nat.le_of_ble_eq_true rfl, Nat.le_of_ble_eq_true rfl⟩, hts _ lk_X7_movesAt_sX8_takesOutOf, trivial⟩ (k_ps hK hN hO_57 _) rfl rfl hl_62.1 rfl (lv_room (Nat.le_of_ble_eq_true rfl)) dX7_movesAt_78 ⟨Nat.le_of_ble_eq_true rfl, Nat.le_of_ble_eq_true rfl⟩) hA hO_57 (fun H_66 locs_66 hO_66 => ?_)
      clear hO_57
      refine lv_ior hx hb dX7_movesAt_81 ?_
      replace hf := zl_some hf
      obtain ⟨v_67, hv_67, hf⟩ := hf
      refine lv_tope hv_67 ?_
      refine lv_istore (lv' := [(5, .int v_67), (6, .int 1), (2, .int v_60), (4, .int 0), (3, .int 1), (0, .ref (L 6)), (1, .int a1)]) hx hb dX7_movesAt_82 hl_62 (by decide) rfl (fun ls_68 hl_68 => ?_)
      clear hl_62
      refine lv_iload_n hx hb dX7_movesAt_84 rfl (lv_at hl_68 2 rfl) ?_
      refine lv_bipush (v := 6) hx hb dX7_movesAt_85 (by decide) ?_
      refine lv_idiv hx hb dX7_movesAt_87 (by decide) ?_
      replace hf := zl_some hf
      obtain ⟨v_69, hv_69, hf⟩ := hf
      refine lv_tope hv_69 ?_
      refine lv_istore_n (lv' := [(2, .int v_69), (5, .int v_67), (6, .int 1), (4, .int 0), (3, .int 1), (0, .ref (L 6)), (1, .int a1)]) hx hb dX7_movesAt_88 rfl hl_68 (by decide) rfl (fun ls_70 hl_70 => ?_)
      clear hl_68
      refine lv_iinc (v := 2) (lv' := [(6, .int 2), (2, .int v_69), (5, .int v_67), (4, .int 0), (3, .int 1), (0, .ref (L 6)), (1, .int a1)]) hx hb dX7_movesAt_89 hl_70 (k := 2) rfl (by decide) (by decide) rfl (fun ls_71 hl_71 => ?_)
      clear hl_70
      refine lv_goto (tgt := 60) hx hb dX7_movesAt_92 (by decide) ?_
      refine lv_iload hx hb dX7_movesAt_60 (lv_at hl_71 0 rfl) ?_
      refine lv_iconst (v := 4) hx hb dX7_movesAt_62 (by decide) ?_
      refine lv_icmp_ge (tgt := 95) hx hb dX7_movesAt_63 (by decide) (fun c_72 => absurd c_72 (by decide)) (fun _ => ?_)
      refine lv_iload hx hb dX7_movesAt_66 (lv_at hl_71 2 rfl) ?_
      refine lv_iload_n hx hb dX7_movesAt_68 rfl (lv_at hl_71 1 rfl) ?_
      refine lv_bipush (v := 6) hx hb dX7_movesAt_69 (by decide) ?_
      refine lv_irem hx hb dX7_movesAt_71 (by decide) ?_
      refine lv_aload_n hx hb dX7_movesAt_72 rfl (lv_at hl_71 5 rfl) ?_
      refine k_get (k := 4) (v := .int (X_64 13 0)) hx hb hts in_X7_movesAt_X7 hown hK hO_66 (by decide) rfl rfl (by decide) lk_X7_movesAt_f111 rfl dX7_movesAt_73 ?_
      refine lv_iload hx hb dX7_movesAt_76 (lv_at hl_71 0 rfl) ?_
      replace hf := zi_some hf
      obtain ⟨r_74, X_73, hc_73, hf⟩ := hf
      refine k_ai (va_runSN (As := [.int (o_rem v_69 6), .int (X_64 13 0), .int 2]) (rest := [.int v_67]) ⟨hx, hb, hml, hown, hts⟩ (mX8_takesOutOf l D L ac hL _ (o_rem v_69 6) (X_64 13 0) 2 _ _ hc_73) ⟨va_cnB 3 hts gX7_movesAt_X8_takesOutOf_n123 rfl rfl rfl (hN _ nx_method_X7_123) (hts _ lk_X7_movesAt_iX8) (by decide +kernel) ⟨Nat.le_of_ble_eq_true rfl, Nat.le_of_ble_eq_true rfl⟩, hts _ lk_X7_movesAt_sX8_takesOutOf, trivial⟩ (k_ps hK hN hO_66 _) rfl rfl hl_71.1 rfl (lv_room (Nat.le_of_ble_eq_true rfl)) dX7_movesAt_78 ⟨Nat.le_of_ble_eq_true rfl, Nat.le_of_ble_eq_true rfl⟩) hA hO_66 (fun H_75 locs_75 hO_75 => ?_)
      clear hO_66
      refine lv_ior hx hb dX7_movesAt_81 ?_
      replace hf := zl_some hf
      obtain ⟨v_76, hv_76, hf⟩ := hf
      refine lv_tope hv_76 ?_
      refine lv_istore (lv' := [(5, .int v_76), (6, .int 2), (2, .int v_69), (4, .int 0), (3, .int 1), (0, .ref (L 6)), (1, .int a1)]) hx hb dX7_movesAt_82 hl_71 (by decide) rfl (fun ls_77 hl_77 => ?_)
      clear hl_71
      refine lv_iload_n hx hb dX7_movesAt_84 rfl (lv_at hl_77 2 rfl) ?_
      refine lv_bipush (v := 6) hx hb dX7_movesAt_85 (by decide) ?_
      refine lv_idiv hx hb dX7_movesAt_87 (by decide) ?_
      replace hf := zl_some hf
      obtain ⟨v_78, hv_78, hf⟩ := hf
      refine lv_tope hv_78 ?_
      refine lv_istore_n (lv' := [(2, .int v_78), (5, .int v_76), (6, .int 2), (4, .int 0), (3, .int 1), (0, .ref (L 6)), (1, .int a1)]) hx hb dX7_movesAt_88 rfl hl_77 (by decide) rfl (fun ls_79 hl_79 => ?_)
      clear hl_77
      refine lv_iinc (v := 3) (lv' := [(6, .int 3), (2, .int v_78), (5, .int v_76), (4, .int 0), (3, .int 1), (0, .ref (L 6)), (1, .int a1)]) hx hb dX7_movesAt_89 hl_79 (k := 2) rfl (by decide) (by decide) rfl (fun ls_80 hl_80 => ?_)
      clear hl_79
      refine lv_goto (tgt := 60) hx hb dX7_movesAt_92 (by decide) ?_
      refine lv_iload hx hb dX7_movesAt_60 (lv_at hl_80 0 rfl) ?_
      refine lv_iconst (v := 4) hx hb dX7_movesAt_62 (by decide) ?_
      refine lv_icmp_ge (tgt := 95) hx hb dX7_movesAt_63 (by decide) (fun c_81 => absurd c_81 (by decide)) (fun _ => ?_)
      refine lv_iload hx hb dX7_movesAt_66 (lv_at hl_80 2 rfl) ?_
      refine lv_iload_n hx hb dX7_movesAt_68 rfl (lv_at hl_80 1 rfl) ?_
      refine lv_bipush (v := 6) hx hb dX7_movesAt_69 (by decide) ?_
      refine lv_irem hx hb dX7_movesAt_71 (by decide) ?_
      refine lv_aload_n hx hb dX7_movesAt_72 rfl (lv_at hl_80 5 rfl) ?_
      refine k_get (k := 4) (v := .int (X_73 13 0)) hx hb hts in_X7_movesAt_X7 hown hK hO_75 (by decide) rfl rfl (by decide) lk_X7_movesAt_f111 rfl dX7_movesAt_73 ?_
      refine lv_iload hx hb dX7_movesAt_76 (lv_at hl_80 0 rfl) ?_
      replace hf := zi_some hf
      obtain ⟨r_83, X_82, hc_82, hf⟩ := hf
      refine k_ai (va_runSN (As := [.int (o_rem v_78 6), .int (X_73 13 0), .int 3]) (rest := [.int v_76]) ⟨hx, hb, hml, hown, hts⟩ (mX8_takesOutOf l D L ac hL _ (o_rem v_78 6) (X_73 13 0) 3 _ _ hc_82) ⟨va_cnB 3 hts gX7_movesAt_X8_takesOutOf_n123 rfl rfl rfl (hN _ nx_method_X7_123) (hts _ lk_X7_movesAt_iX8) (by decide +kernel) ⟨Nat.le_of_ble_eq_true rfl, Nat.le_of_ble_eq_true rfl⟩, hts _ lk_X7_movesAt_sX8_takesOutOf, trivial⟩ (k_ps hK hN hO_75 _) rfl rfl hl_80.1 rfl (lv_room (Nat.le_of_ble_eq_true rfl)) dX7_movesAt_78 ⟨Nat.le_of_ble_eq_true rfl, Nat.le_of_ble_eq_true rfl⟩) hA hO_75 (fun H_84 locs_84 hO_84 => ?_)
      clear hO_75
      refine lv_ior hx hb dX7_movesAt_81 ?_
      replace hf := zl_some hf
      obtain ⟨v_85, hv_85, hf⟩ := hf
      refine lv_tope hv_85 ?_
      refine lv_istore (lv' := [(5, .int v_85), (6, .int 3), (2, .int v_78), (4, .int 0), (3, .int 1), (0, .ref (L 6)), (1, .int a1)]) hx hb dX7_movesAt_82 hl_80 (by decide) rfl (fun ls_86 hl_86 => ?_)
      clear hl_80
      refine lv_iload_n hx hb dX7_movesAt_84 rfl (lv_at hl_86 2 rfl) ?_
      refine lv_bipush (v := 6) hx hb dX7_movesAt_85 (by decide) ?_
      refine lv_idiv hx hb dX7_movesAt_87 (by decide) ?_
      replace hf := zl_some hf
      obtain ⟨v_87, hv_87, hf⟩ := hf
      refine lv_tope hv_87 ?_
      refine lv_istore_n (lv' := [(2, .int v_87), (5, .int v_85), (6, .int 3), (4, .int 0), (3, .int 1), (0, .ref (L 6)), (1, .int a1)]) hx hb dX7_movesAt_88 rfl hl_86 (by decide) rfl (fun ls_88 hl_88 => ?_)
      clear hl_86
      refine lv_iinc (v := 4) (lv' := [(6, .int 4), (2, .int v_87), (5, .int v_85), (4, .int 0), (3, .int 1), (0, .ref (L 6)), (1, .int a1)]) hx hb dX7_movesAt_89 hl_88 (k := 2) rfl (by decide) (by decide) rfl (fun ls_89 hl_89 => ?_)
      clear hl_88
      refine lv_goto (tgt := 60) hx hb dX7_movesAt_92 (by decide) ?_
      refine lv_iload hx hb dX7_movesAt_60 (lv_at hl_89 0 rfl) ?_
      refine lv_iconst (v := 4) hx hb dX7_movesAt_62 (by decide) ?_
      refine lv_icmp_ge (tgt := 95) hx hb dX7_movesAt_63 (by decide) (fun _ => ?_) (fun c_90 => absurd (by decide) c_90)
      refine lv_iload hx hb dX7_movesAt_95 (lv_at hl_89 2 rfl) ?_
      obtain ⟨rfl, rfl⟩ := Prod.mk.inj (Option.some.inj hf)
      exact e_i hx hb hr hK hN hO_84 hlocks dX7_movesAt_97
    · rw [if_neg c_49] at hf
      refine lv_iload_n hx hb dX7_movesAt_29 rfl (lv_at hl_47 3 rfl) ?_
      refine lv_iconst (v := 3) hx hb dX7_movesAt_30 (by decide) ?_
      refine lv_idiv hx hb dX7_movesAt_31 (by decide) ?_
      refine lv_iconst (v := 3) hx hb dX7_movesAt_32 (by decide) ?_
      refine lv_irem hx hb dX7_movesAt_33 (by decide) ?_
      refine lv_if_le (tgt := 41) hx hb dX7_movesAt_34 (by decide) (fun c_91 => ?_) (fun c_91 => ?_)
      · rw [if_pos c_91] at hf
        refine lv_iconst (v := 0) hx hb dX7_movesAt_41 (by decide) ?_
        refine lv_istore (lv' := [(4, .int 0), (3, .int 1), (2, .int v_1), (0, .ref (L 6)), (1, .int a1)]) hx hb dX7_movesAt_42 hl_47 (by decide) rfl (fun ls_92 hl_92 => ?_)
        clear hl_47
        refine lv_iload hx hb dX7_movesAt_44 (lv_at hl_92 0 rfl) ?_
        refine lv_if_eq (tgt := 54) hx hb dX7_movesAt_46 (by decide) (fun _ => ?_) (fun c_93 => absurd (by decide) c_93)
        refine lv_iconst (v := 0) hx hb dX7_movesAt_54 (by decide) ?_
        refine lv_istore (lv' := [(5, .int 0), (4, .int 0), (3, .int 1), (2, .int v_1), (0, .ref (L 6)), (1, .int a1)]) hx hb dX7_movesAt_55 hl_92 (by decide) rfl (fun ls_94 hl_94 => ?_)
        clear hl_92
        refine lv_iconst (v := 0) hx hb dX7_movesAt_57 (by decide) ?_
        refine lv_istore (lv' := [(6, .int 0), (5, .int 0), (4, .int 0), (3, .int 1), (2, .int v_1), (0, .ref (L 6)), (1, .int a1)]) hx hb dX7_movesAt_58 hl_94 (by decide) rfl (fun ls_95 hl_95 => ?_)
        clear hl_94
        refine lv_iload hx hb dX7_movesAt_60 (lv_at hl_95 0 rfl) ?_
        refine lv_iconst (v := 4) hx hb dX7_movesAt_62 (by decide) ?_
        refine lv_icmp_ge (tgt := 95) hx hb dX7_movesAt_63 (by decide) (fun c_96 => absurd c_96 (by decide)) (fun _ => ?_)
        refine lv_iload hx hb dX7_movesAt_66 (lv_at hl_95 1 rfl) ?_
        refine lv_iload_n hx hb dX7_movesAt_68 rfl (lv_at hl_95 4 rfl) ?_
        refine lv_bipush (v := 6) hx hb dX7_movesAt_69 (by decide) ?_
        refine lv_irem hx hb dX7_movesAt_71 (by decide) ?_
        refine lv_aload_n hx hb dX7_movesAt_72 rfl (lv_at hl_95 5 rfl) ?_
        refine k_get (k := 4) (v := .int (X 13 0)) hx hb hts in_X7_movesAt_X7 hown hK hO (by decide) rfl rfl (by decide) lk_X7_movesAt_f111 rfl dX7_movesAt_73 ?_
        refine lv_iload hx hb dX7_movesAt_76 (lv_at hl_95 0 rfl) ?_
        replace hf := zi_some hf
        obtain ⟨r_98, X_97, hc_97, hf⟩ := hf
        refine k_ai (va_runSN (As := [.int (o_rem v_1 6), .int (X 13 0), .int 0]) (rest := [.int 0]) ⟨hx, hb, hml, hown, hts⟩ (mX8_takesOutOf l D L ac hL _ (o_rem v_1 6) (X 13 0) 0 _ _ hc_97) ⟨va_cnB 3 hts gX7_movesAt_X8_takesOutOf_n123 rfl rfl rfl (hN _ nx_method_X7_123) (hts _ lk_X7_movesAt_iX8) (by decide +kernel) ⟨Nat.le_of_ble_eq_true rfl, Nat.le_of_ble_eq_true rfl⟩, hts _ lk_X7_movesAt_sX8_takesOutOf, trivial⟩ (k_ps hK hN hO _) rfl rfl hl_95.1 rfl (lv_room (Nat.le_of_ble_eq_true rfl)) dX7_movesAt_78 ⟨Nat.le_of_ble_eq_true rfl, Nat.le_of_ble_eq_true rfl⟩) hA hO (fun H_99 locs_99 hO_99 => ?_)
        clear hO
        refine lv_ior hx hb dX7_movesAt_81 ?_
        replace hf := zl_some hf
        obtain ⟨v_100, hv_100, hf⟩ := hf
        refine lv_tope hv_100 ?_
        refine lv_istore (lv' := [(5, .int v_100), (6, .int 0), (4, .int 0), (3, .int 1), (2, .int v_1), (0, .ref (L 6)), (1, .int a1)]) hx hb dX7_movesAt_82 hl_95 (by decide) rfl (fun ls_101 hl_101 => ?_)
        clear hl_95
        refine lv_iload_n hx hb dX7_movesAt_84 rfl (lv_at hl_101 4 rfl) ?_
        refine lv_bipush (v := 6) hx hb dX7_movesAt_85 (by decide) ?_
        refine lv_idiv hx hb dX7_movesAt_87 (by decide) ?_
        replace hf := zl_some hf
        obtain ⟨v_102, hv_102, hf⟩ := hf
        refine lv_tope hv_102 ?_
        refine lv_istore_n (lv' := [(2, .int v_102), (5, .int v_100), (6, .int 0), (4, .int 0), (3, .int 1), (0, .ref (L 6)), (1, .int a1)]) hx hb dX7_movesAt_88 rfl hl_101 (by decide) rfl (fun ls_103 hl_103 => ?_)
        clear hl_101
        refine lv_iinc (v := 1) (lv' := [(6, .int 1), (2, .int v_102), (5, .int v_100), (4, .int 0), (3, .int 1), (0, .ref (L 6)), (1, .int a1)]) hx hb dX7_movesAt_89 hl_103 (k := 2) rfl (by decide) (by decide) rfl (fun ls_104 hl_104 => ?_)
        clear hl_103
        refine lv_goto (tgt := 60) hx hb dX7_movesAt_92 (by decide) ?_
        refine lv_iload hx hb dX7_movesAt_60 (lv_at hl_104 0 rfl) ?_
        refine lv_iconst (v := 4) hx hb dX7_movesAt_62 (by decide) ?_
        refine lv_icmp_ge (tgt := 95) hx hb dX7_movesAt_63 (by decide) (fun c_105 => absurd c_105 (by decide)) (fun _ => ?_)
        refine lv_iload hx hb dX7_movesAt_66 (lv_at hl_104 2 rfl) ?_
        refine lv_iload_n hx hb dX7_movesAt_68 rfl (lv_at hl_104 1 rfl) ?_
        refine lv_bipush (v := 6) hx hb dX7_movesAt_69 (by decide) ?_
        refine lv_irem hx hb dX7_movesAt_71 (by decide) ?_
        refine lv_aload_n hx hb dX7_movesAt_72 rfl (lv_at hl_104 5 rfl) ?_
        refine k_get (k := 4) (v := .int (X_97 13 0)) hx hb hts in_X7_movesAt_X7 hown hK hO_99 (by decide) rfl rfl (by decide) lk_X7_movesAt_f111 rfl dX7_movesAt_73 ?_
        refine lv_iload hx hb dX7_movesAt_76 (lv_at hl_104 0 rfl) ?_
        replace hf := zi_some hf
        obtain ⟨r_107, X_106, hc_106, hf⟩ := hf
        refine k_ai (va_runSN (As := [.int (o_rem v_102 6), .int (X_97 13 0), .int 1]) (rest := [.int v_100]) ⟨hx, hb, hml, hown, hts⟩ (mX8_takesOutOf l D L ac hL _ (o_rem v_102 6) (X_97 13 0) 1 _ _ hc_106) ⟨va_cnB 3 hts gX7_movesAt_X8_takesOutOf_n123 rfl rfl rfl (hN _ nx_method_X7_123) (hts _ lk_X7_movesAt_iX8) (by decide +kernel) ⟨Nat.le_of_ble_eq_true rfl, Nat.le_of_ble_eq_true rfl⟩, hts _ lk_X7_movesAt_sX8_takesOutOf, trivial⟩ (k_ps hK hN hO_99 _) rfl rfl hl_104.1 rfl (lv_room (Nat.le_of_ble_eq_true rfl)) dX7_movesAt_78 ⟨Nat.le_of_ble_eq_true rfl, Nat.le_of_ble_eq_true rfl⟩) hA hO_99 (fun H_108 locs_108 hO_108 => ?_)
        clear hO_99
        refine lv_ior hx hb dX7_movesAt_81 ?_
        replace hf := zl_some hf
        obtain ⟨v_109, hv_109, hf⟩ := hf
        refine lv_tope hv_109 ?_
        refine lv_istore (lv' := [(5, .int v_109), (6, .int 1), (2, .int v_102), (4, .int 0), (3, .int 1), (0, .ref (L 6)), (1, .int a1)]) hx hb dX7_movesAt_82 hl_104 (by decide) rfl (fun ls_110 hl_110 => ?_)
        clear hl_104
        refine lv_iload_n hx hb dX7_movesAt_84 rfl (lv_at hl_110 2 rfl) ?_
        refine lv_bipush (v := 6) hx hb dX7_movesAt_85 (by decide) ?_
        refine lv_idiv hx hb dX7_movesAt_87 (by decide) ?_
        replace hf := zl_some hf
        obtain ⟨v_111, hv_111, hf⟩ := hf
        refine lv_tope hv_111 ?_
        refine lv_istore_n (lv' := [(2, .int v_111), (5, .int v_109), (6, .int 1), (4, .int 0), (3, .int 1), (0, .ref (L 6)), (1, .int a1)]) hx hb dX7_movesAt_88 rfl hl_110 (by decide) rfl (fun ls_112 hl_112 => ?_)
        clear hl_110
        refine lv_iinc (v := 2) (lv' := [(6, .int 2), (2, .int v_111), (5, .int v_109), (4, .int 0), (3, .int 1), (0, .ref (L 6)), (1, .int a1)]) hx hb dX7_movesAt_89 hl_112 (k := 2) rfl (by decide) (by decide) rfl (fun ls_113 hl_113 => ?_)
        clear hl_112
        refine lv_goto (tgt := 60) hx hb dX7_movesAt_92 (by decide) ?_
        refine lv_iload hx hb dX7_movesAt_60 (lv_at hl_113 0 rfl) ?_
        refine lv_iconst (v := 4) hx hb dX7_movesAt_62 (by decide) ?_
        refine lv_icmp_ge (tgt := 95) hx hb dX7_movesAt_63 (by decide) (fun c_114 => absurd c_114 (by decide)) (fun _ => ?_)
        refine lv_iload hx hb dX7_movesAt_66 (lv_at hl_113 2 rfl) ?_
        refine lv_iload_n hx hb dX7_movesAt_68 rfl (lv_at hl_113 1 rfl) ?_
        refine lv_bipush (v := 6) hx hb dX7_movesAt_69 (by decide) ?_
        refine lv_irem hx hb dX7_movesAt_71 (by decide) ?_
        refine lv_aload_n hx hb dX7_movesAt_72 rfl (lv_at hl_113 5 rfl) ?_
        refine k_get (k := 4) (v := .int (X_106 13 0)) hx hb hts in_X7_movesAt_X7 hown hK hO_108 (by decide) rfl rfl (by decide) lk_X7_movesAt_f111 rfl dX7_movesAt_73 ?_
        refine lv_iload hx hb dX7_movesAt_76 (lv_at hl_113 0 rfl) ?_
        replace hf := zi_some hf
        obtain ⟨r_116, X_115, hc_115, hf⟩ := hf
        refine k_ai (va_runSN (As := [.int (o_rem v_111 6), .int (X_106 13 0), .int 2]) (rest := [.int v_109]) ⟨hx, hb, hml, hown, hts⟩ (mX8_takesOutOf l D L ac hL _ (o_rem v_111 6) (X_106 13 0) 2 _ _ hc_115) ⟨va_cnB 3 hts gX7_movesAt_X8_takesOutOf_n123 rfl rfl rfl (hN _ nx_method_X7_123) (hts _ lk_X7_movesAt_iX8) (by decide +kernel) ⟨Nat.le_of_ble_eq_true rfl, Nat.le_of_ble_eq_true rfl⟩, hts _ lk_X7_movesAt_sX8_takesOutOf, trivial⟩ (k_ps hK hN hO_108 _) rfl rfl hl_113.1 rfl (lv_room (Nat.le_of_ble_eq_true rfl)) dX7_movesAt_78 ⟨Nat.le_of_ble_eq_true rfl, Nat.le_of_ble_eq_true rfl⟩) hA hO_108 (fun H_117 locs_117 hO_117 => ?_)
        clear hO_108
        refine lv_ior hx hb dX7_movesAt_81 ?_
        replace hf := zl_some hf
        obtain ⟨v_118, hv_118, hf⟩ := hf
        refine lv_tope hv_118 ?_
        refine lv_istore (lv' := [(5, .int v_118), (6, .int 2), (2, .int v_111), (4, .int 0), (3, .int 1), (0, .ref (L 6)), (1, .int a1)]) hx hb dX7_movesAt_82 hl_113 (by decide) rfl (fun ls_119 hl_119 => ?_)
        clear hl_113
        refine lv_iload_n hx hb dX7_movesAt_84 rfl (lv_at hl_119 2 rfl) ?_
        refine lv_bipush (v := 6) hx hb dX7_movesAt_85 (by decide) ?_
        refine lv_idiv hx hb dX7_movesAt_87 (by decide) ?_
        replace hf := zl_some hf
        obtain ⟨v_120, hv_120, hf⟩ := hf
        refine lv_tope hv_120 ?_
        refine lv_istore_n (lv' := [(2, .int v_120), (5, .int v_118), (6, .int 2), (4, .int 0), (3, .int 1), (0, .ref (L 6)), (1, .int a1)]) hx hb dX7_movesAt_88 rfl hl_119 (by decide) rfl (fun ls_121 hl_121 => ?_)
        clear hl_119
        refine lv_iinc (v := 3) (lv' := [(6, .int 3), (2, .int v_120), (5, .int v_118), (4, .int 0), (3, .int 1), (0, .ref (L 6)), (1, .int a1)]) hx hb dX7_movesAt_89 hl_121 (k := 2) rfl (by decide) (by decide) rfl (fun ls_122 hl_122 => ?_)
        clear hl_121
        refine lv_goto (tgt := 60) hx hb dX7_movesAt_92 (by decide) ?_
        refine lv_iload hx hb dX7_movesAt_60 (lv_at hl_122 0 rfl) ?_
        refine lv_iconst (v := 4) hx hb dX7_movesAt_62 (by decide) ?_
        refine lv_icmp_ge (tgt := 95) hx hb dX7_movesAt_63 (by decide) (fun c_123 => absurd c_123 (by decide)) (fun _ => ?_)
        refine lv_iload hx hb dX7_movesAt_66 (lv_at hl_122 2 rfl) ?_
        refine lv_iload_n hx hb dX7_movesAt_68 rfl (lv_at hl_122 1 rfl) ?_
        refine lv_bipush (v := 6) hx hb dX7_movesAt_69 (by decide) ?_
        refine lv_irem hx hb dX7_movesAt_71 (by decide) ?_
        refine lv_aload_n hx hb dX7_movesAt_72 rfl (lv_at hl_122 5 rfl) ?_
        refine k_get (k := 4) (v := .int (X_115 13 0)) hx hb hts in_X7_movesAt_X7 hown hK hO_117 (by decide) rfl rfl (by decide) lk_X7_movesAt_f111 rfl dX7_movesAt_73 ?_
        refine lv_iload hx hb dX7_movesAt_76 (lv_at hl_122 0 rfl) ?_
        replace hf := zi_some hf
        obtain ⟨r_125, X_124, hc_124, hf⟩ := hf
        refine k_ai (va_runSN (As := [.int (o_rem v_120 6), .int (X_115 13 0), .int 3]) (rest := [.int v_118]) ⟨hx, hb, hml, hown, hts⟩ (mX8_takesOutOf l D L ac hL _ (o_rem v_120 6) (X_115 13 0) 3 _ _ hc_124) ⟨va_cnB 3 hts gX7_movesAt_X8_takesOutOf_n123 rfl rfl rfl (hN _ nx_method_X7_123) (hts _ lk_X7_movesAt_iX8) (by decide +kernel) ⟨Nat.le_of_ble_eq_true rfl, Nat.le_of_ble_eq_true rfl⟩, hts _ lk_X7_movesAt_sX8_takesOutOf, trivial⟩ (k_ps hK hN hO_117 _) rfl rfl hl_122.1 rfl (lv_room (Nat.le_of_ble_eq_true rfl)) dX7_movesAt_78 ⟨Nat.le_of_ble_eq_true rfl, Nat.le_of_ble_eq_true rfl⟩) hA hO_117 (fun H_126 locs_126 hO_126 => ?_)
        clear hO_117
        refine lv_ior hx hb dX7_movesAt_81 ?_
        replace hf := zl_some hf
        obtain ⟨v_127, hv_127, hf⟩ := hf
        refine lv_tope hv_127 ?_
        refine lv_istore (lv' := [(5, .int v_127), (6, .int 3), (2, .int v_120), (4, .int 0), (3, .int 1), (0, .ref (L 6)), (1, .int a1)]) hx hb dX7_movesAt_82 hl_122 (by decide) rfl (fun ls_128 hl_128 => ?_)
        clear hl_122
        refine lv_iload_n hx hb dX7_movesAt_84 rfl (lv_at hl_128 2 rfl) ?_
        refine lv_bipush (v := 6) hx hb dX7_movesAt_85 (by decide) ?_
        refine lv_idiv hx hb dX7_movesAt_87 (by decide) ?_
        replace hf := zl_some hf
        obtain ⟨v_129, hv_129, hf⟩ := hf
        refine lv_tope hv_129 ?_
        refine lv_istore_n (lv' := [(2, .int v_129), (5, .int v_127), (6, .int 3), (4, .int 0), (3, .int 1), (0, .ref (L 6)), (1, .int a1)]) hx hb dX7_movesAt_88 rfl hl_128 (by decide) rfl (fun ls_130 hl_130 => ?_)
        clear hl_128
        refine lv_iinc (v := 4) (lv' := [(6, .int 4), (2, .int v_129), (5, .int v_127), (4, .int 0), (3, .int 1), (0, .ref (L 6)), (1, .int a1)]) hx hb dX7_movesAt_89 hl_130 (k := 2) rfl (by decide) (by decide) rfl (fun ls_131 hl_131 => ?_)
        clear hl_130
        refine lv_goto (tgt := 60) hx hb dX7_movesAt_92 (by decide) ?_
        refine lv_iload hx hb dX7_movesAt_60 (lv_at hl_131 0 rfl) ?_
        refine lv_iconst (v := 4) hx hb dX7_movesAt_62 (by decide) ?_
        refine lv_icmp_ge (tgt := 95) hx hb dX7_movesAt_63 (by decide) (fun _ => ?_) (fun c_132 => absurd (by decide) c_132)
        refine lv_iload hx hb dX7_movesAt_95 (lv_at hl_131 2 rfl) ?_
        obtain ⟨rfl, rfl⟩ := Prod.mk.inj (Option.some.inj hf)
        exact e_i hx hb hr hK hN hO_126 hlocks dX7_movesAt_97
      · rw [if_neg c_91] at hf
        refine lv_iconst (v := 1) hx hb dX7_movesAt_37 (by decide) ?_
        refine lv_goto (tgt := 42) hx hb dX7_movesAt_38 (by decide) ?_
        refine lv_istore (lv' := [(4, .int 1), (3, .int 1), (2, .int v_1), (0, .ref (L 6)), (1, .int a1)]) hx hb dX7_movesAt_42 hl_47 (by decide) rfl (fun ls_133 hl_133 => ?_)
        clear hl_47
        refine lv_iload hx hb dX7_movesAt_44 (lv_at hl_133 0 rfl) ?_
        refine lv_if_eq (tgt := 54) hx hb dX7_movesAt_46 (by decide) (fun c_134 => absurd c_134 (by decide)) (fun _ => ?_)
        refine lv_ldc (v := 1048576) hx hb hown (hts _ lk_X7_movesAt_c122) dX7_movesAt_49 ?_
        refine lv_goto (tgt := 55) hx hb dX7_movesAt_51 (by decide) ?_
        refine lv_istore (lv' := [(5, .int 1048576), (4, .int 1), (3, .int 1), (2, .int v_1), (0, .ref (L 6)), (1, .int a1)]) hx hb dX7_movesAt_55 hl_133 (by decide) rfl (fun ls_135 hl_135 => ?_)
        clear hl_133
        refine lv_iconst (v := 0) hx hb dX7_movesAt_57 (by decide) ?_
        refine lv_istore (lv' := [(6, .int 0), (5, .int 1048576), (4, .int 1), (3, .int 1), (2, .int v_1), (0, .ref (L 6)), (1, .int a1)]) hx hb dX7_movesAt_58 hl_135 (by decide) rfl (fun ls_136 hl_136 => ?_)
        clear hl_135
        refine lv_iload hx hb dX7_movesAt_60 (lv_at hl_136 0 rfl) ?_
        refine lv_iconst (v := 4) hx hb dX7_movesAt_62 (by decide) ?_
        refine lv_icmp_ge (tgt := 95) hx hb dX7_movesAt_63 (by decide) (fun c_137 => absurd c_137 (by decide)) (fun _ => ?_)
        refine lv_iload hx hb dX7_movesAt_66 (lv_at hl_136 1 rfl) ?_
        refine lv_iload_n hx hb dX7_movesAt_68 rfl (lv_at hl_136 4 rfl) ?_
        refine lv_bipush (v := 6) hx hb dX7_movesAt_69 (by decide) ?_
        refine lv_irem hx hb dX7_movesAt_71 (by decide) ?_
        refine lv_aload_n hx hb dX7_movesAt_72 rfl (lv_at hl_136 5 rfl) ?_
        refine k_get (k := 4) (v := .int (X 13 0)) hx hb hts in_X7_movesAt_X7 hown hK hO (by decide) rfl rfl (by decide) lk_X7_movesAt_f111 rfl dX7_movesAt_73 ?_
        refine lv_iload hx hb dX7_movesAt_76 (lv_at hl_136 0 rfl) ?_
        replace hf := zi_some hf
        obtain ⟨r_139, X_138, hc_138, hf⟩ := hf
        refine k_ai (va_runSN (As := [.int (o_rem v_1 6), .int (X 13 0), .int 0]) (rest := [.int 1048576]) ⟨hx, hb, hml, hown, hts⟩ (mX8_takesOutOf l D L ac hL _ (o_rem v_1 6) (X 13 0) 0 _ _ hc_138) ⟨va_cnB 3 hts gX7_movesAt_X8_takesOutOf_n123 rfl rfl rfl (hN _ nx_method_X7_123) (hts _ lk_X7_movesAt_iX8) (by decide +kernel) ⟨Nat.le_of_ble_eq_true rfl, Nat.le_of_ble_eq_true rfl⟩, hts _ lk_X7_movesAt_sX8_takesOutOf, trivial⟩ (k_ps hK hN hO _) rfl rfl hl_136.1 rfl (lv_room (Nat.le_of_ble_eq_true rfl)) dX7_movesAt_78 ⟨Nat.le_of_ble_eq_true rfl, Nat.le_of_ble_eq_true rfl⟩) hA hO (fun H_140 locs_140 hO_140 => ?_)
        clear hO
        refine lv_ior hx hb dX7_movesAt_81 ?_
        replace hf := zl_some hf
        obtain ⟨v_141, hv_141, hf⟩ := hf
        refine lv_tope hv_141 ?_
        refine lv_istore (lv' := [(5, .int v_141), (6, .int 0), (4, .int 1), (3, .int 1), (2, .int v_1), (0, .ref (L 6)), (1, .int a1)]) hx hb dX7_movesAt_82 hl_136 (by decide) rfl (fun ls_142 hl_142 => ?_)
        clear hl_136
        refine lv_iload_n hx hb dX7_movesAt_84 rfl (lv_at hl_142 4 rfl) ?_
        refine lv_bipush (v := 6) hx hb dX7_movesAt_85 (by decide) ?_
        refine lv_idiv hx hb dX7_movesAt_87 (by decide) ?_
        replace hf := zl_some hf
        obtain ⟨v_143, hv_143, hf⟩ := hf
        refine lv_tope hv_143 ?_
        refine lv_istore_n (lv' := [(2, .int v_143), (5, .int v_141), (6, .int 0), (4, .int 1), (3, .int 1), (0, .ref (L 6)), (1, .int a1)]) hx hb dX7_movesAt_88 rfl hl_142 (by decide) rfl (fun ls_144 hl_144 => ?_)
        clear hl_142
        refine lv_iinc (v := 1) (lv' := [(6, .int 1), (2, .int v_143), (5, .int v_141), (4, .int 1), (3, .int 1), (0, .ref (L 6)), (1, .int a1)]) hx hb dX7_movesAt_89 hl_144 (k := 2) rfl (by decide) (by decide) rfl (fun ls_145 hl_145 => ?_)
        clear hl_144
        refine lv_goto (tgt := 60) hx hb dX7_movesAt_92 (by decide) ?_
        refine lv_iload hx hb dX7_movesAt_60 (lv_at hl_145 0 rfl) ?_
        refine lv_iconst (v := 4) hx hb dX7_movesAt_62 (by decide) ?_
        refine lv_icmp_ge (tgt := 95) hx hb dX7_movesAt_63 (by decide) (fun c_146 => absurd c_146 (by decide)) (fun _ => ?_)
        refine lv_iload hx hb dX7_movesAt_66 (lv_at hl_145 2 rfl) ?_
        refine lv_iload_n hx hb dX7_movesAt_68 rfl (lv_at hl_145 1 rfl) ?_
        refine lv_bipush (v := 6) hx hb dX7_movesAt_69 (by decide) ?_
        refine lv_irem hx hb dX7_movesAt_71 (by decide) ?_
        refine lv_aload_n hx hb dX7_movesAt_72 rfl (lv_at hl_145 5 rfl) ?_
        refine k_get (k := 4) (v := .int (X_138 13 0)) hx hb hts in_X7_movesAt_X7 hown hK hO_140 (by decide) rfl rfl (by decide) lk_X7_movesAt_f111 rfl dX7_movesAt_73 ?_
        refine lv_iload hx hb dX7_movesAt_76 (lv_at hl_145 0 rfl) ?_
        replace hf := zi_some hf
        obtain ⟨r_148, X_147, hc_147, hf⟩ := hf
        refine k_ai (va_runSN (As := [.int (o_rem v_143 6), .int (X_138 13 0), .int 1]) (rest := [.int v_141]) ⟨hx, hb, hml, hown, hts⟩ (mX8_takesOutOf l D L ac hL _ (o_rem v_143 6) (X_138 13 0) 1 _ _ hc_147) ⟨va_cnB 3 hts gX7_movesAt_X8_takesOutOf_n123 rfl rfl rfl (hN _ nx_method_X7_123) (hts _ lk_X7_movesAt_iX8) (by decide +kernel) ⟨Nat.le_of_ble_eq_true rfl, Nat.le_of_ble_eq_true rfl⟩, hts _ lk_X7_movesAt_sX8_takesOutOf, trivial⟩ (k_ps hK hN hO_140 _) rfl rfl hl_145.1 rfl (lv_room (Nat.le_of_ble_eq_true rfl)) dX7_movesAt_78 ⟨Nat.le_of_ble_eq_true rfl, Nat.le_of_ble_eq_true rfl⟩) hA hO_140 (fun H_149 locs_149 hO_149 => ?_)
        clear hO_140
        refine lv_ior hx hb dX7_movesAt_81 ?_
        replace hf := zl_some hf
        obtain ⟨v_150, hv_150, hf⟩ := hf
        refine lv_tope hv_150 ?_
        refine lv_istore (lv' := [(5, .int v_150), (6, .int 1), (2, .int v_143), (4, .int 1), (3, .int 1), (0, .ref (L 6)), (1, .int a1)]) hx hb dX7_movesAt_82 hl_145 (by decide) rfl (fun ls_151 hl_151 => ?_)
        clear hl_145
        refine lv_iload_n hx hb dX7_movesAt_84 rfl (lv_at hl_151 2 rfl) ?_
        refine lv_bipush (v := 6) hx hb dX7_movesAt_85 (by decide) ?_
        refine lv_idiv hx hb dX7_movesAt_87 (by decide) ?_
        replace hf := zl_some hf
        obtain ⟨v_152, hv_152, hf⟩ := hf
        refine lv_tope hv_152 ?_
        refine lv_istore_n (lv' := [(2, .int v_152), (5, .int v_150), (6, .int 1), (4, .int 1), (3, .int 1), (0, .ref (L 6)), (1, .int a1)]) hx hb dX7_movesAt_88 rfl hl_151 (by decide) rfl (fun ls_153 hl_153 => ?_)
        clear hl_151
        refine lv_iinc (v := 2) (lv' := [(6, .int 2), (2, .int v_152), (5, .int v_150), (4, .int 1), (3, .int 1), (0, .ref (L 6)), (1, .int a1)]) hx hb dX7_movesAt_89 hl_153 (k := 2) rfl (by decide) (by decide) rfl (fun ls_154 hl_154 => ?_)
        clear hl_153
        refine lv_goto (tgt := 60) hx hb dX7_movesAt_92 (by decide) ?_
        refine lv_iload hx hb dX7_movesAt_60 (lv_at hl_154 0 rfl) ?_
        refine lv_iconst (v := 4) hx hb dX7_movesAt_62 (by decide) ?_
        refine lv_icmp_ge (tgt := 95) hx hb dX7_movesAt_63 (by decide) (fun c_155 => absurd c_155 (by decide)) (fun _ => ?_)
        refine lv_iload hx hb dX7_movesAt_66 (lv_at hl_154 2 rfl) ?_
        refine lv_iload_n hx hb dX7_movesAt_68 rfl (lv_at hl_154 1 rfl) ?_
        refine lv_bipush (v := 6) hx hb dX7_movesAt_69 (by decide) ?_
        refine lv_irem hx hb dX7_movesAt_71 (by decide) ?_
        refine lv_aload_n hx hb dX7_movesAt_72 rfl (lv_at hl_154 5 rfl) ?_
        refine k_get (k := 4) (v := .int (X_147 13 0)) hx hb hts in_X7_movesAt_X7 hown hK hO_149 (by decide) rfl rfl (by decide) lk_X7_movesAt_f111 rfl dX7_movesAt_73 ?_
        refine lv_iload hx hb dX7_movesAt_76 (lv_at hl_154 0 rfl) ?_
        replace hf := zi_some hf
        obtain ⟨r_157, X_156, hc_156, hf⟩ := hf
        refine k_ai (va_runSN (As := [.int (o_rem v_152 6), .int (X_147 13 0), .int 2]) (rest := [.int v_150]) ⟨hx, hb, hml, hown, hts⟩ (mX8_takesOutOf l D L ac hL _ (o_rem v_152 6) (X_147 13 0) 2 _ _ hc_156) ⟨va_cnB 3 hts gX7_movesAt_X8_takesOutOf_n123 rfl rfl rfl (hN _ nx_method_X7_123) (hts _ lk_X7_movesAt_iX8) (by decide +kernel) ⟨Nat.le_of_ble_eq_true rfl, Nat.le_of_ble_eq_true rfl⟩, hts _ lk_X7_movesAt_sX8_takesOutOf, trivial⟩ (k_ps hK hN hO_149 _) rfl rfl hl_154.1 rfl (lv_room (Nat.le_of_ble_eq_true rfl)) dX7_movesAt_78 ⟨Nat.le_of_ble_eq_true rfl, Nat.le_of_ble_eq_true rfl⟩) hA hO_149 (fun H_158 locs_158 hO_158 => ?_)
        clear hO_149
        refine lv_ior hx hb dX7_movesAt_81 ?_
        replace hf := zl_some hf
        obtain ⟨v_159, hv_159, hf⟩ := hf
        refine lv_tope hv_159 ?_
        refine lv_istore (lv' := [(5, .int v_159), (6, .int 2), (2, .int v_152), (4, .int 1), (3, .int 1), (0, .ref (L 6)), (1, .int a1)]) hx hb dX7_movesAt_82 hl_154 (by decide) rfl (fun ls_160 hl_160 => ?_)
        clear hl_154
        refine lv_iload_n hx hb dX7_movesAt_84 rfl (lv_at hl_160 2 rfl) ?_
        refine lv_bipush (v := 6) hx hb dX7_movesAt_85 (by decide) ?_
        refine lv_idiv hx hb dX7_movesAt_87 (by decide) ?_
        replace hf := zl_some hf
        obtain ⟨v_161, hv_161, hf⟩ := hf
        refine lv_tope hv_161 ?_
        refine lv_istore_n (lv' := [(2, .int v_161), (5, .int v_159), (6, .int 2), (4, .int 1), (3, .int 1), (0, .ref (L 6)), (1, .int a1)]) hx hb dX7_movesAt_88 rfl hl_160 (by decide) rfl (fun ls_162 hl_162 => ?_)
        clear hl_160
        refine lv_iinc (v := 3) (lv' := [(6, .int 3), (2, .int v_161), (5, .int v_159), (4, .int 1), (3, .int 1), (0, .ref (L 6)), (1, .int a1)]) hx hb dX7_movesAt_89 hl_162 (k := 2) rfl (by decide) (by decide) rfl (fun ls_163 hl_163 => ?_)
        clear hl_162
        refine lv_goto (tgt := 60) hx hb dX7_movesAt_92 (by decide) ?_
        refine lv_iload hx hb dX7_movesAt_60 (lv_at hl_163 0 rfl) ?_
        refine lv_iconst (v := 4) hx hb dX7_movesAt_62 (by decide) ?_
        refine lv_icmp_ge (tgt := 95) hx hb dX7_movesAt_63 (by decide) (fun c_164 => absurd c_164 (by decide)) (fun _ => ?_)
        refine lv_iload hx hb dX7_movesAt_66 (lv_at hl_163 2 rfl) ?_
        refine lv_iload_n hx hb dX7_movesAt_68 rfl (lv_at hl_163 1 rfl) ?_
        refine lv_bipush (v := 6) hx hb dX7_movesAt_69 (by decide) ?_
        refine lv_irem hx hb dX7_movesAt_71 (by decide) ?_
        refine lv_aload_n hx hb dX7_movesAt_72 rfl (lv_at hl_163 5 rfl) ?_
        refine k_get (k := 4) (v := .int (X_156 13 0)) hx hb hts in_X7_movesAt_X7 hown hK hO_158 (by decide) rfl rfl (by decide) lk_X7_movesAt_f111 rfl dX7_movesAt_73 ?_
        refine lv_iload hx hb dX7_movesAt_76 (lv_at hl_163 0 rfl) ?_
        replace hf := zi_some hf
        obtain ⟨r_166, X_165, hc_165, hf⟩ := hf
        refine k_ai (va_runSN (As := [.int (o_rem v_161 6), .int (X_156 13 0), .int 3]) (rest := [.int v_159]) ⟨hx, hb, hml, hown, hts⟩ (mX8_takesOutOf l D L ac hL _ (o_rem v_161 6) (X_156 13 0) 3 _ _ hc_165) ⟨va_cnB 3 hts gX7_movesAt_X8_takesOutOf_n123 rfl rfl rfl (hN _ nx_method_X7_123) (hts _ lk_X7_movesAt_iX8) (by decide +kernel) ⟨Nat.le_of_ble_eq_true rfl, Nat.le_of_ble_eq_true rfl⟩, hts _ lk_X7_movesAt_sX8_takesOutOf, trivial⟩ (k_ps hK hN hO_158 _) rfl rfl hl_163.1 rfl (lv_room (Nat.le_of_ble_eq_true rfl)) dX7_movesAt_78 ⟨Nat.le_of_ble_eq_true rfl, Nat.le_of_ble_eq_true rfl⟩) hA hO_158 (fun H_167 locs_167 hO_167 => ?_)
        clear hO_158
        refine lv_ior hx hb dX7_movesAt_81 ?_
        replace hf := zl_some hf
        obtain ⟨v_168, hv_168, hf⟩ := hf
        refine lv_tope hv_168 ?_
        refine lv_istore (lv' := [(5, .int v_168), (6, .int 3), (2, .int v_161), (4, .int 1), (3, .int 1), (0, .ref (L 6)), (1, .int a1)]) hx hb dX7_movesAt_82 hl_163 (by decide) rfl (fun ls_169 hl_169 => ?_)
        clear hl_163
        refine lv_iload_n hx hb dX7_movesAt_84 rfl (lv_at hl_169 2 rfl) ?_
        refine lv_bipush (v := 6) hx hb dX7_movesAt_85 (by decide) ?_
        refine lv_idiv hx hb dX7_movesAt_87 (by decide) ?_
        replace hf := zl_some hf
        obtain ⟨v_170, hv_170, hf⟩ := hf
        refine lv_tope hv_170 ?_
        refine lv_istore_n (lv' := [(2, .int v_170), (5, .int v_168), (6, .int 3), (4, .int 1), (3, .int 1), (0, .ref (L 6)), (1, .int a1)]) hx hb dX7_movesAt_88 rfl hl_169 (by decide) rfl (fun ls_171 hl_171 => ?_)
        clear hl_169
        refine lv_iinc (v := 4) (lv' := [(6, .int 4), (2, .int v_170), (5, .int v_168), (4, .int 1), (3, .int 1), (0, .ref (L 6)), (1, .int a1)]) hx hb dX7_movesAt_89 hl_171 (k := 2) rfl (by decide) (by decide) rfl (fun ls_172 hl_172 => ?_)
        clear hl_171
        refine lv_goto (tgt := 60) hx hb dX7_movesAt_92 (by decide) ?_
        refine lv_iload hx hb dX7_movesAt_60 (lv_at hl_172 0 rfl) ?_
        refine lv_iconst (v := 4) hx hb dX7_movesAt_62 (by decide) ?_
        refine lv_icmp_ge (tgt := 95) hx hb dX7_movesAt_63 (by decide) (fun _ => ?_) (fun c_173 => absurd (by decide) c_173)
        refine lv_iload hx hb dX7_movesAt_95 (lv_at hl_172 2 rfl) ?_
        obtain ⟨rfl, rfl⟩ := Prod.mk.inj (Option.some.inj hf)
        exact e_i hx hb hr hK hN hO_167 hlocks dX7_movesAt_97
theorem in_X7_poisonAt_X7 : ∀ w ∈ u_ws RX7 TX7 8, w ∈ wsX7_poisonAt := by decide +kernel
theorem lk_X7_poisonAt_f116 : Cond.fieldLink RX7 116 "PoisonPiles$Solver" "poisonedPiles" "I" ∈ wsX7_poisonAt := by decide +kernel
theorem lk_X7_poisonAt_iX8 : Cond.initialized RX8 ∈ wsX7_poisonAt := by decide +kernel
theorem lk_X7_poisonAt_sX8_isIn : Cond.static yX8_isIn ∈ wsX7_poisonAt := by decide +kernel
theorem lk_X7_poisonAt_sX8_takeMove : Cond.static yX8_takeMove ∈ wsX7_poisonAt := by decide +kernel
def fX7_poisonAt_10   : Nat → Int32 → Int32 → Int32 → Int32 → XM → Option (Int32 × XM)
  | 0, _, _, _, _, _ => none
  | n + 1, x1, x2, x3, x4, X => if 4 ≤ x4 then some (x3, X) else zl (o_rem x2 6) (fun v_2 => zi (fX8_isIn (X 13 2) x4 X) (fun r_5 X_4 => if r_5 = 0 then zl (x2 / 6) (fun v_8 => fX7_poisonAt_10 n x1 v_8 x3 (x4 + 1) X_4) else if v_2 ≤ 0 then zl (x2 / 6) (fun v_12 => fX7_poisonAt_10 n x1 v_12 x3 (x4 + 1) X_4) else zi (fX8_takeMove x4 v_2 X_4) (fun r_16 X_15 => zl (x3 ||| (o_shl 1 r_16)) (fun v_18 => zl (x2 / 6) (fun v_20 => fX7_poisonAt_10 n x1 v_20 v_18 (x4 + 1) X_15)))))
set_option maxHeartbeats 4000000 in
set_option maxRecDepth 100000 in
theorem wX7_poisonAt_10 {p : Program} {l : Launch} {e : Env} {s : State} {m : MethodId} {args : Array Value} {below : List Frame} {meth : Method} {c : Code} {D : va_G} {L : Nat → Nat} {ac : Nat → ClassId} {r0 : Int32} {X0 : XM} (hL : LL L) (F : Fx p s m args meth c cX7_poisonAt 6 (some .int) wsX7_poisonAt yX7_poisonAt.cls D ac) : ∀ (n : Nat) (x1 : Int32) (x2 : Int32) (x3 : Int32) (x4 : Int32) (X : XM) (H : Heap) (locs : List Loc) (ls : Array Slot), Oh D L ac X (fr L) s.heap H locs → lv_has ls 6 [(0, .ref (L 6)), (1, .int x1), (2, .int x2), (3, .int x3), (4, .int x4)] → fX7_poisonAt_10 n x1 x2 x3 x4 X = some (r0, X0) → W p l e (headSpec wsX7_poisonAt ({ frames := 1, cells := 0, slots := 0, locals := 21 })).room s m args below meth c H locs 0 0 (MQ below (va_Qi (fun (r : Int32) (Y : XM) => r = r0 ∧ Y = X0) (fun (Y : XM) t => St D L ac Y t) (fr L)) args s 0 0 (fr L)) (F0 m 10 ls []) := by
  obtain ⟨hx, hb, hr, hts, hown, hlocks, hml, hK, hN⟩ := id F
  have hA : ∀ q, fr L q → fr L q := fun q h => h
  intro n
  induction n with
  | zero => intro x1 x2 x3 x4 X H locs ls hO hl hf; simp [fX7_poisonAt_10] at hf
  | succ n ih =>
    intro x1 x2 x3 x4 X H locs ls hO hl hf
    rw [fX7_poisonAt_10] at hf
    refine lv_iload hx hb dX7_poisonAt_10 (lv_at hl 4 rfl) ?_
    refine lv_iconst (v := 4) hx hb dX7_poisonAt_12 (by decide) ?_
    refine lv_icmp_ge (tgt := 62) hx hb dX7_poisonAt_13 (by decide) (fun c_1 => ?_) (fun c_1 => ?_)
    · rw [if_pos c_1] at hf
      refine lv_iload_n hx hb dX7_poisonAt_62 rfl (lv_at hl 3 rfl) ?_
      obtain ⟨rfl, rfl⟩ := Prod.mk.inj (Option.some.inj hf)
      exact e_i hx hb hr hK hN hO hlocks dX7_poisonAt_63
    · rw [if_neg c_1] at hf
      refine lv_iload_n hx hb dX7_poisonAt_16 rfl (lv_at hl 2 rfl) ?_
      refine lv_bipush (v := 6) hx hb dX7_poisonAt_17 (by decide) ?_
      refine lv_irem hx hb dX7_poisonAt_19 (by decide) ?_
      replace hf := zl_some hf
      obtain ⟨v_2, hv_2, hf⟩ := hf
      refine lv_tope hv_2 ?_
      refine lv_istore (lv' := [(5, .int v_2), (0, .ref (L 6)), (1, .int x1), (2, .int x2), (3, .int x3), (4, .int x4)]) hx hb dX7_poisonAt_20 hl (by decide) rfl (fun ls_3 hl_3 => ?_)
      clear hl
      refine lv_aload_n hx hb dX7_poisonAt_22 rfl (lv_at hl_3 1 rfl) ?_
      refine k_get (k := 6) (v := .int (X 13 2)) hx hb hts in_X7_poisonAt_X7 hown hK hO (by decide) rfl rfl (by decide) lk_X7_poisonAt_f116 rfl dX7_poisonAt_23 ?_
      refine lv_iload hx hb dX7_poisonAt_26 (lv_at hl_3 5 rfl) ?_
      replace hf := zi_some hf
      obtain ⟨r_5, X_4, hc_4, hf⟩ := hf
      refine k_ai (va_runSN (As := [.int (X 13 2), .int x4]) (rest := []) ⟨hx, hb, hml, hown, hts⟩ (mX8_isIn l D L ac hL _ (X 13 2) x4 _ _ hc_4) ⟨va_cnB 2 hts gX7_poisonAt_X8_isIn_n47 rfl rfl rfl (hN _ nx_method_X7_47) (hts _ lk_X7_poisonAt_iX8) (by decide +kernel) ⟨Nat.le_of_ble_eq_true rfl, Nat.le_of_ble_eq_true rfl⟩, hts _ lk_X7_poisonAt_sX8_isIn, trivial⟩ (k_ps hK hN hO _) rfl rfl hl_3.1 rfl (lv_room (Nat.le_of_ble_eq_true rfl)) dX7_poisonAt_28 ⟨Nat.le_of_ble_eq_true rfl, Nat.le_of_ble_eq_true rfl⟩) hA hO (fun H_6 locs_6 hO_6 => ?_)
      clear hO
      refine lv_if_eq (tgt := 51) hx hb dX7_poisonAt_31 (by decide) (fun c_7 => ?_) (fun c_7 => ?_)
      · rw [if_pos c_7] at hf
        subst c_7
        refine lv_iload_n hx hb dX7_poisonAt_51 rfl (lv_at hl_3 3 rfl) ?_
        refine lv_bipush (v := 6) hx hb dX7_poisonAt_52 (by decide) ?_
        refine lv_idiv hx hb dX7_poisonAt_54 (by decide) ?_
        replace hf := zl_some hf
        obtain ⟨v_8, hv_8, hf⟩ := hf
        refine lv_tope hv_8 ?_
        refine lv_istore_n (lv' := [(2, .int v_8), (5, .int v_2), (0, .ref (L 6)), (1, .int x1), (3, .int x3), (4, .int x4)]) hx hb dX7_poisonAt_55 rfl hl_3 (by decide) rfl (fun ls_9 hl_9 => ?_)
        clear hl_3
        refine lv_iinc (v := x4 + 1) (lv' := [(4, .int (x4 + 1)), (2, .int v_8), (5, .int v_2), (0, .ref (L 6)), (1, .int x1), (3, .int x3)]) hx hb dX7_poisonAt_56 hl_9 (k := 5) rfl rfl (by decide) rfl (fun ls_10 hl_10 => ?_)
        clear hl_9
        refine lv_goto (tgt := 10) hx hb dX7_poisonAt_59 (by decide) ?_
        exact ih _ _ _ _ _  _ _ _ hO_6 (lv_sub hl_10 [3, 4, 1, 5, 0] rfl) hf
      · rw [if_neg c_7] at hf
        refine lv_iload hx hb dX7_poisonAt_34 (lv_at hl_3 0 rfl) ?_
        refine lv_if_le (tgt := 51) hx hb dX7_poisonAt_36 (by decide) (fun c_11 => ?_) (fun c_11 => ?_)
        · rw [if_pos c_11] at hf
          refine lv_iload_n hx hb dX7_poisonAt_51 rfl (lv_at hl_3 3 rfl) ?_
          refine lv_bipush (v := 6) hx hb dX7_poisonAt_52 (by decide) ?_
          refine lv_idiv hx hb dX7_poisonAt_54 (by decide) ?_
          replace hf := zl_some hf
          obtain ⟨v_12, hv_12, hf⟩ := hf
          refine lv_tope hv_12 ?_
          refine lv_istore_n (lv' := [(2, .int v_12), (5, .int v_2), (0, .ref (L 6)), (1, .int x1), (3, .int x3), (4, .int x4)]) hx hb dX7_poisonAt_55 rfl hl_3 (by decide) rfl (fun ls_13 hl_13 => ?_)
          clear hl_3
          refine lv_iinc (v := x4 + 1) (lv' := [(4, .int (x4 + 1)), (2, .int v_12), (5, .int v_2), (0, .ref (L 6)), (1, .int x1), (3, .int x3)]) hx hb dX7_poisonAt_56 hl_13 (k := 5) rfl rfl (by decide) rfl (fun ls_14 hl_14 => ?_)
          clear hl_13
          refine lv_goto (tgt := 10) hx hb dX7_poisonAt_59 (by decide) ?_
          exact ih _ _ _ _ _  _ _ _ hO_6 (lv_sub hl_14 [3, 4, 1, 5, 0] rfl) hf
        · rw [if_neg c_11] at hf
          refine lv_iload_n hx hb dX7_poisonAt_39 rfl (lv_at hl_3 4 rfl) ?_
          refine lv_iconst (v := 1) hx hb dX7_poisonAt_40 (by decide) ?_
          refine lv_iload hx hb dX7_poisonAt_41 (lv_at hl_3 5 rfl) ?_
          refine lv_iload hx hb dX7_poisonAt_43 (lv_at hl_3 0 rfl) ?_
          replace hf := zi_some hf
          obtain ⟨r_16, X_15, hc_15, hf⟩ := hf
          refine k_ai (va_runSN (As := [.int x4, .int v_2]) (rest := [.int 1, .int x3]) ⟨hx, hb, hml, hown, hts⟩ (mX8_takeMove l D L ac hL _ x4 v_2 _ _ hc_15) ⟨va_cnB 2 hts gX7_poisonAt_X8_takeMove_n119 rfl rfl rfl (hN _ nx_method_X7_119) (hts _ lk_X7_poisonAt_iX8) (by decide +kernel) ⟨Nat.le_of_ble_eq_true rfl, Nat.le_of_ble_eq_true rfl⟩, hts _ lk_X7_poisonAt_sX8_takeMove, trivial⟩ (k_ps hK hN hO_6 _) rfl rfl hl_3.1 rfl (lv_room (Nat.le_of_ble_eq_true rfl)) dX7_poisonAt_45 ⟨Nat.le_of_ble_eq_true rfl, Nat.le_of_ble_eq_true rfl⟩) hA hO_6 (fun H_17 locs_17 hO_17 => ?_)
          clear hO_6
          refine lv_ishl hx hb dX7_poisonAt_48 ?_
          refine lv_ior hx hb dX7_poisonAt_49 ?_
          replace hf := zl_some hf
          obtain ⟨v_18, hv_18, hf⟩ := hf
          refine lv_tope hv_18 ?_
          refine lv_istore_n (lv' := [(3, .int v_18), (5, .int v_2), (0, .ref (L 6)), (1, .int x1), (2, .int x2), (4, .int x4)]) hx hb dX7_poisonAt_50 rfl hl_3 (by decide) rfl (fun ls_19 hl_19 => ?_)
          clear hl_3
          refine lv_iload_n hx hb dX7_poisonAt_51 rfl (lv_at hl_19 4 rfl) ?_
          refine lv_bipush (v := 6) hx hb dX7_poisonAt_52 (by decide) ?_
          refine lv_idiv hx hb dX7_poisonAt_54 (by decide) ?_
          replace hf := zl_some hf
          obtain ⟨v_20, hv_20, hf⟩ := hf
          refine lv_tope hv_20 ?_
          refine lv_istore_n (lv' := [(2, .int v_20), (3, .int v_18), (5, .int v_2), (0, .ref (L 6)), (1, .int x1), (4, .int x4)]) hx hb dX7_poisonAt_55 rfl hl_19 (by decide) rfl (fun ls_21 hl_21 => ?_)
          clear hl_19
          refine lv_iinc (v := x4 + 1) (lv' := [(4, .int (x4 + 1)), (2, .int v_20), (3, .int v_18), (5, .int v_2), (0, .ref (L 6)), (1, .int x1)]) hx hb dX7_poisonAt_56 hl_21 (k := 5) rfl rfl (by decide) rfl (fun ls_22 hl_22 => ?_)
          clear hl_21
          refine lv_goto (tgt := 10) hx hb dX7_poisonAt_59 (by decide) ?_
          exact ih _ _ _ _ _  _ _ _ hO_17 (lv_sub hl_22 [4, 5, 1, 2, 0] rfl) hf
def fX7_poisonAt  (a1 : Int32) (X : XM) : Option (Int32 × XM) := zl (a1 / 18) (fun v_23 => fX7_poisonAt_10 fuel a1 v_23 0 0 X)
set_option maxHeartbeats 4000000 in
set_option maxRecDepth 100000 in
theorem mX7_poisonAt (l : Launch) (D : va_G) (L : Nat → Nat) (ac : Nat → ClassId) (hL : LL L) (X : XM) (a1 : Int32) (r0 : Int32) (X0 : XM) (hf : fX7_poisonAt a1 X = some (r0, X0)) : Ci l yX7_poisonAt wsX7_poisonAt ({ frames := 1, cells := 0, slots := 0, locals := 21 }) D L ac X [.ref (L 6), .int a1] r0 X0 := by
  refine Met.ofK (cc := cX7_poisonAt) (maxL := 6) (ret := (some .int)) (lv := [(0, .ref (L 6)), (1, .int a1)]) (by decide +kernel) rfl (Nat.le_of_ble_eq_true rfl) rfl ?_
  intro p e s m below meth c F hO ls hl
  obtain ⟨hx, hb, hr, hts, hown, hlocks, hml, hK, hN⟩ := id F
  have hA : ∀ q, fr L q → fr L q := fun q h => h
  unfold fX7_poisonAt at hf
  refine lv_iload_n hx hb dX7_poisonAt_0 rfl (lv_at hl 1 rfl) ?_
  refine lv_bipush (v := 18) hx hb dX7_poisonAt_1 (by decide) ?_
  refine lv_idiv hx hb dX7_poisonAt_3 (by decide) ?_
  replace hf := zl_some hf
  obtain ⟨v_23, hv_23, hf⟩ := hf
  refine lv_tope hv_23 ?_
  refine lv_istore_n (lv' := [(2, .int v_23), (0, .ref (L 6)), (1, .int a1)]) hx hb dX7_poisonAt_4 rfl hl (by decide) rfl (fun ls_24 hl_24 => ?_)
  clear hl
  refine lv_iconst (v := 0) hx hb dX7_poisonAt_5 (by decide) ?_
  refine lv_istore_n (lv' := [(3, .int 0), (2, .int v_23), (0, .ref (L 6)), (1, .int a1)]) hx hb dX7_poisonAt_6 rfl hl_24 (by decide) rfl (fun ls_25 hl_25 => ?_)
  clear hl_24
  refine lv_iconst (v := 0) hx hb dX7_poisonAt_7 (by decide) ?_
  refine lv_istore (lv' := [(4, .int 0), (3, .int 0), (2, .int v_23), (0, .ref (L 6)), (1, .int a1)]) hx hb dX7_poisonAt_8 hl_25 (by decide) rfl (fun ls_26 hl_26 => ?_)
  clear hl_25
  exact wX7_poisonAt_10 hL F  fuel _ _ _ _ _  _ _ _ hO (lv_sub hl_26 [3, 4, 2, 1, 0] rfl) hf
def fX7_turned  (a1 : Int32) (X : XM) : Option (Int32 × XM) := zl (o_rem (a1 / 3) 3) (fun v_1 => zl (o_rem a1 3) (fun v_3 => some ((((a1 - (o_rem a1 18)) + 9) + (v_3 * 3)) + v_1, X)))
set_option maxHeartbeats 4000000 in
set_option maxRecDepth 100000 in
theorem mX7_turned (l : Launch) (D : va_G) (L : Nat → Nat) (ac : Nat → ClassId) (hL : LL L) (X : XM) (a1 : Int32) (r0 : Int32) (X0 : XM) (hf : fX7_turned a1 X = some (r0, X0)) : Ci l yX7_turned wsX7_turned ({ frames := 0, cells := 0, slots := 0, locals := 0 }) D L ac X [.int a1] r0 X0 := by
  refine Met.ofK (cc := cX7_turned) (maxL := 3) (ret := (some .int)) (lv := [(0, .int a1)]) (by decide +kernel) rfl (Nat.le_of_ble_eq_true rfl) rfl ?_
  intro p e s m below meth c F hO ls hl
  obtain ⟨hx, hb, hr, hts, hown, hlocks, hml, hK, hN⟩ := id F
  have hA : ∀ q, fr L q → fr L q := fun q h => h
  unfold fX7_turned at hf
  refine lv_iload_n hx hb dX7_turned_0 rfl (lv_at hl 0 rfl) ?_
  refine lv_iconst (v := 3) hx hb dX7_turned_1 (by decide) ?_
  refine lv_idiv hx hb dX7_turned_2 (by decide) ?_
  refine lv_iconst (v := 3) hx hb dX7_turned_3 (by decide) ?_
  refine lv_irem hx hb dX7_turned_4 (by decide) ?_
  replace hf := zl_some hf
  obtain ⟨v_1, hv_1, hf⟩ := hf
  refine lv_tope hv_1 ?_
  refine lv_istore_n (lv' := [(1, .int v_1), (0, .int a1)]) hx hb dX7_turned_5 rfl hl (by decide) rfl (fun ls_2 hl_2 => ?_)
  clear hl
  refine lv_iload_n hx hb dX7_turned_6 rfl (lv_at hl_2 1 rfl) ?_
  refine lv_iconst (v := 3) hx hb dX7_turned_7 (by decide) ?_
  refine lv_irem hx hb dX7_turned_8 (by decide) ?_
  replace hf := zl_some hf
  obtain ⟨v_3, hv_3, hf⟩ := hf
  refine lv_tope hv_3 ?_
  refine lv_istore_n (lv' := [(2, .int v_3), (1, .int v_1), (0, .int a1)]) hx hb dX7_turned_9 rfl hl_2 (by decide) rfl (fun ls_4 hl_4 => ?_)
  clear hl_2
  refine lv_iload_n hx hb dX7_turned_10 rfl (lv_at hl_4 2 rfl) ?_
  refine lv_iload_n hx hb dX7_turned_11 rfl (lv_at hl_4 2 rfl) ?_
  refine lv_bipush (v := 18) hx hb dX7_turned_12 (by decide) ?_
  refine lv_irem hx hb dX7_turned_14 (by decide) ?_
  refine lv_isub hx hb dX7_turned_15 ?_
  refine lv_bipush (v := 9) hx hb dX7_turned_16 (by decide) ?_
  refine lv_iadd hx hb dX7_turned_18 ?_
  refine lv_iload_n hx hb dX7_turned_19 rfl (lv_at hl_4 0 rfl) ?_
  refine lv_iconst (v := 3) hx hb dX7_turned_20 (by decide) ?_
  refine lv_imul hx hb dX7_turned_21 ?_
  refine lv_iadd hx hb dX7_turned_22 ?_
  refine lv_iload_n hx hb dX7_turned_23 rfl (lv_at hl_4 1 rfl) ?_
  refine lv_iadd hx hb dX7_turned_24 ?_
  obtain ⟨rfl, rfl⟩ := Prod.mk.inj (Option.some.inj hf)
  exact e_i hx hb hr hK hN hO hlocks dX7_turned_25
theorem in_X7_learnPiles_X0 : ∀ w ∈ u_ws RX0 TX0 10, w ∈ wsX7_learnPiles := by decide +kernel
theorem in_X7_learnPiles_X3 : ∀ w ∈ u_ws RX3 TX3 4, w ∈ wsX7_learnPiles := by decide +kernel
theorem in_X7_learnPiles_X7 : ∀ w ∈ u_ws RX7 TX7 8, w ∈ wsX7_learnPiles := by decide +kernel
theorem lk_X7_learnPiles_f116 : Cond.fieldLink RX7 116 "PoisonPiles$Solver" "poisonedPiles" "I" ∈ wsX7_learnPiles := by decide +kernel
theorem lk_X7_learnPiles_f21 : Cond.fieldLink RX7 21 "PoisonPiles$Solver" "gained" "[I" ∈ wsX7_learnPiles := by decide +kernel
theorem lk_X7_learnPiles_iX8 : Cond.initialized RX8 ∈ wsX7_learnPiles := by decide +kernel
theorem lk_X7_learnPiles_sX8_takeMove : Cond.static yX8_takeMove ∈ wsX7_learnPiles := by decide +kernel
def fX7_learnPiles_49  (k7 : Nat → Int32 → XM → Option XM) : Nat → Nat → Int32 → Nat → Nat → Int32 → XM → Option XM
  | 0, _, _, _, _, _, _ => none
  | n + 1, g, x2, y3a, y3b, x4, X => if 5 < x4 then k7 g (x2 + 1) X else zi (fX8_takeMove x2 x4 X) (fun r_4 X_3 => if r_4 < 0 then fX7_learnPiles_49 k7 n g x2 y3a y3b (x4 + 1) X_3 else if 21 ≤ r_4 then fX7_learnPiles_49 k7 n g x2 y3a y3b (x4 + 1) X_3 else zd r_4 21 (zl (xup X_3 17 (Int32.toNatClampNeg r_4) ((X_3 y3a (12 + 4 * y3b)) * x4)) (fun X_12 => fX7_learnPiles_49 k7 n g x2 y3a y3b (x4 + 1) X_12)))
set_option maxHeartbeats 4000000 in
set_option maxRecDepth 100000 in
theorem wX7_learnPiles_49 {p : Program} {l : Launch} {e : Env} {s : State} {m : MethodId} {args : Array Value} {below : List Frame} {meth : Method} {c : Code} {D : va_G} {L : Nat → Nat} {ac : Nat → ClassId} {X0 : XM} (hL : LL L) (F : Fx p s m args meth c cX7_learnPiles 6 none wsX7_learnPiles yX7_learnPiles.cls D ac) (k7 : Nat → Int32 → XM → Option XM) (hk7 : ∀ (g : Nat) (x2 : Int32) (X : XM) (_ : g < 11) (H : Heap) (locs : List Loc) (ls : Array Slot), Oh D L ac X (fr L) s.heap H locs → lv_has ls 6 [(0, .ref (L 6)), (1, .ref (L (aG g))), (2, .int x2)] → k7 g x2 X = some X0 → W p l e (headSpec wsX7_learnPiles ({ frames := 1, cells := 0, slots := 0, locals := 21 })).room s m args below meth c H locs 0 0 (MQ below (va_Qv (fun (Y : XM) => Y = X0) (fun (Y : XM) t => St D L ac Y t) (fr L)) args s 0 0 (fr L)) (F0 m 7 ls [])) : ∀ (n : Nat) (g : Nat) (x2 : Int32) (y3a : Nat) (y3b : Nat) (x4 : Int32) (X : XM) (_ : g < 11) (_ : y3a < 11) (_ : y3b < 4) (H : Heap) (locs : List Loc) (ls : Array Slot), Oh D L ac X (fr L) s.heap H locs → lv_has ls 6 [(0, .ref (L 6)), (1, .ref (L (aG g))), (2, .int x2), (3, .ref (L (aP y3a y3b))), (4, .int x4)] → fX7_learnPiles_49 k7 n g x2 y3a y3b x4 X = some X0 → W p l e (headSpec wsX7_learnPiles ({ frames := 1, cells := 0, slots := 0, locals := 21 })).room s m args below meth c H locs 0 0 (MQ below (va_Qv (fun (Y : XM) => Y = X0) (fun (Y : XM) t => St D L ac Y t) (fr L)) args s 0 0 (fr L)) (F0 m 49 ls []) := by
  obtain ⟨hx, hb, hr, hts, hown, hlocks, hml, hK, hN⟩ := id F
  have hA : ∀ q, fr L q → fr L q := fun q h => h
  intro n
  induction n with
  | zero => intro g x2 y3a y3b x4 X h_ h_ h_ H locs ls hO hl hf; simp [fX7_learnPiles_49] at hf
  | succ n ih =>
    intro g x2 y3a y3b x4 X hg hy3a hy3b H locs ls hO hl hf
    rw [fX7_learnPiles_49] at hf
    refine lv_iload hx hb dX7_learnPiles_49 (lv_at hl 4 rfl) ?_
    refine lv_iconst (v := 5) hx hb dX7_learnPiles_51 (by decide) ?_
    refine lv_icmp_gt (tgt := 98) hx hb dX7_learnPiles_52 (by decide) (fun c_1 => ?_) (fun c_1 => ?_)
    · rw [if_pos c_1] at hf
      refine lv_iinc (v := x2 + 1) (lv' := [(2, .int (x2 + 1)), (0, .ref (L 6)), (1, .ref (L (aG g))), (3, .ref (L (aP y3a y3b))), (4, .int x4)]) hx hb dX7_learnPiles_98 hl (k := 2) rfl rfl (by decide) rfl (fun ls_2 hl_2 => ?_)
      clear hl
      refine lv_goto (tgt := 7) hx hb dX7_learnPiles_101 (by decide) ?_
      exact hk7 _ _ _ hg _ _ _ hO (lv_sub hl_2 [1, 2, 0] rfl) hf
    · rw [if_neg c_1] at hf
      refine lv_iload_n hx hb dX7_learnPiles_55 rfl (lv_at hl 2 rfl) ?_
      refine lv_iload hx hb dX7_learnPiles_56 (lv_at hl 4 rfl) ?_
      replace hf := zi_some hf
      obtain ⟨r_4, X_3, hc_3, hf⟩ := hf
      refine k_ai (va_runSN (As := [.int x2, .int x4]) (rest := []) ⟨hx, hb, hml, hown, hts⟩ (mX8_takeMove l D L ac hL _ x2 x4 _ _ hc_3) ⟨va_cnB 2 hts gX7_learnPiles_X8_takeMove_n119 rfl rfl rfl (hN _ nx_method_X7_119) (hts _ lk_X7_learnPiles_iX8) (by decide +kernel) ⟨Nat.le_of_ble_eq_true rfl, Nat.le_of_ble_eq_true rfl⟩, hts _ lk_X7_learnPiles_sX8_takeMove, trivial⟩ (k_ps hK hN hO _) rfl rfl hl.1 rfl (lv_room (Nat.le_of_ble_eq_true rfl)) dX7_learnPiles_58 ⟨Nat.le_of_ble_eq_true rfl, Nat.le_of_ble_eq_true rfl⟩) hA hO (fun H_5 locs_5 hO_5 => ?_)
      clear hO
      refine lv_istore (lv' := [(5, .int r_4), (0, .ref (L 6)), (1, .ref (L (aG g))), (2, .int x2), (3, .ref (L (aP y3a y3b))), (4, .int x4)]) hx hb dX7_learnPiles_61 hl (by decide) rfl (fun ls_6 hl_6 => ?_)
      clear hl
      refine lv_iload hx hb dX7_learnPiles_63 (lv_at hl_6 0 rfl) ?_
      refine lv_if_lt (tgt := 92) hx hb dX7_learnPiles_65 (by decide) (fun c_7 => ?_) (fun c_7 => ?_)
      · rw [if_pos c_7] at hf
        refine lv_iinc (v := x4 + 1) (lv' := [(4, .int (x4 + 1)), (5, .int r_4), (0, .ref (L 6)), (1, .ref (L (aG g))), (2, .int x2), (3, .ref (L (aP y3a y3b)))]) hx hb dX7_learnPiles_92 hl_6 (k := 5) rfl rfl (by decide) rfl (fun ls_8 hl_8 => ?_)
        clear hl_6
        refine lv_goto (tgt := 49) hx hb dX7_learnPiles_95 (by decide) ?_
        exact ih _ _ _ _ _ _ hg hy3a hy3b _ _ _ hO_5 (lv_sub hl_8 [2, 3, 4, 5, 0] rfl) hf
      · rw [if_neg c_7] at hf
        refine lv_iload hx hb dX7_learnPiles_68 (lv_at hl_6 0 rfl) ?_
        refine lv_aload_n hx hb dX7_learnPiles_70 rfl (lv_at hl_6 1 rfl) ?_
        refine k_get (k := 3) (v := .ref (L 10)) hx hb hts in_X7_learnPiles_X7 hown hK hO_5 (by decide) rfl rfl (by decide) lk_X7_learnPiles_f21 rfl dX7_learnPiles_71 ?_
        refine k_alen (v := 21) (t := 0) hx hb hK hO_5 (by decide) rfl rfl rfl dX7_learnPiles_74 ?_
        refine lv_icmp_ge (tgt := 92) hx hb dX7_learnPiles_75 (by decide) (fun c_9 => ?_) (fun c_9 => ?_)
        · rw [if_pos c_9] at hf
          refine lv_iinc (v := x4 + 1) (lv' := [(4, .int (x4 + 1)), (5, .int r_4), (0, .ref (L 6)), (1, .ref (L (aG g))), (2, .int x2), (3, .ref (L (aP y3a y3b)))]) hx hb dX7_learnPiles_92 hl_6 (k := 5) rfl rfl (by decide) rfl (fun ls_10 hl_10 => ?_)
          clear hl_6
          refine lv_goto (tgt := 49) hx hb dX7_learnPiles_95 (by decide) ?_
          exact ih _ _ _ _ _ _ hg hy3a hy3b _ _ _ hO_5 (lv_sub hl_10 [2, 3, 4, 5, 0] rfl) hf
        · rw [if_neg c_9] at hf
          refine lv_aload_n hx hb dX7_learnPiles_78 rfl (lv_at hl_6 1 rfl) ?_
          refine k_get (k := 3) (v := .ref (L 10)) hx hb hts in_X7_learnPiles_X7 hown hK hO_5 (by decide) rfl rfl (by decide) lk_X7_learnPiles_f21 rfl dX7_learnPiles_79 ?_
          refine lv_iload hx hb dX7_learnPiles_82 (lv_at hl_6 0 rfl) ?_
          refine lv_aload_n hx hb dX7_learnPiles_84 rfl (lv_at hl_6 4 rfl) ?_
          refine k_getN (k := 2) (v := .int (X_3 y3a (12 + 4 * y3b))) hx hb hts in_X7_learnPiles_X3 hown hK hN hO_5 (aP_lt hy3a hy3b) (cn_P y3a y3b hy3b) rfl (by decide) nx_field_X7_99 rfl dX7_learnPiles_85 ?_
          refine lv_iload hx hb dX7_learnPiles_88 (lv_at hl_6 5 rfl) ?_
          refine lv_imul hx hb dX7_learnPiles_90 ?_
          replace hf := zd_some hf
          obtain ⟨hi_11, hf⟩ := hf
          refine k_iast hx hb hK hL hA hO_5 (by decide) (by decide) rfl (fun _ => rfl) hi_11 dX7_learnPiles_91 (fun H_13 locs_13 hO_13 => ?_)
          replace hf := zl_some hf
          obtain ⟨X_12, hX_12, hf⟩ := hf
          have hQ_13 := zo_eq hX_12 hO_13
          clear hO_13 hO_5
          refine lv_iinc (v := x4 + 1) (lv' := [(4, .int (x4 + 1)), (5, .int r_4), (0, .ref (L 6)), (1, .ref (L (aG g))), (2, .int x2), (3, .ref (L (aP y3a y3b)))]) hx hb dX7_learnPiles_92 hl_6 (k := 5) rfl rfl (by decide) rfl (fun ls_14 hl_14 => ?_)
          clear hl_6
          refine lv_goto (tgt := 49) hx hb dX7_learnPiles_95 (by decide) ?_
          exact ih _ _ _ _ _ _ hg hy3a hy3b _ _ _ hQ_13 (lv_sub hl_14 [2, 3, 4, 5, 0] rfl) hf
def fX7_learnPiles_7   : Nat → Nat → Int32 → XM → Option XM
  | 0, _, _, _ => none
  | n + 1, g, x2, X => if 4 ≤ x2 then some X else zd x2 4 (if (X g (13 + 4 * (Int32.toNatClampNeg x2))) = 0 then zl (xup X 13 2 ((X 13 2) ||| 0)) (fun X_19 => fX7_learnPiles_49 (fX7_learnPiles_7 n) fuel g x2 g (Int32.toNatClampNeg x2) 1 X_19) else zl (xup X 13 2 ((X 13 2) ||| (o_shl 1 x2))) (fun X_22 => fX7_learnPiles_49 (fX7_learnPiles_7 n) fuel g x2 g (Int32.toNatClampNeg x2) 1 X_22))
set_option maxHeartbeats 4000000 in
set_option maxRecDepth 100000 in
theorem wX7_learnPiles_7 {p : Program} {l : Launch} {e : Env} {s : State} {m : MethodId} {args : Array Value} {below : List Frame} {meth : Method} {c : Code} {D : va_G} {L : Nat → Nat} {ac : Nat → ClassId} {X0 : XM} (hL : LL L) (F : Fx p s m args meth c cX7_learnPiles 6 none wsX7_learnPiles yX7_learnPiles.cls D ac) : ∀ (n : Nat) (g : Nat) (x2 : Int32) (X : XM) (_ : g < 11) (H : Heap) (locs : List Loc) (ls : Array Slot), Oh D L ac X (fr L) s.heap H locs → lv_has ls 6 [(0, .ref (L 6)), (1, .ref (L (aG g))), (2, .int x2)] → fX7_learnPiles_7 n g x2 X = some X0 → W p l e (headSpec wsX7_learnPiles ({ frames := 1, cells := 0, slots := 0, locals := 21 })).room s m args below meth c H locs 0 0 (MQ below (va_Qv (fun (Y : XM) => Y = X0) (fun (Y : XM) t => St D L ac Y t) (fr L)) args s 0 0 (fr L)) (F0 m 7 ls []) := by
  obtain ⟨hx, hb, hr, hts, hown, hlocks, hml, hK, hN⟩ := id F
  have hA : ∀ q, fr L q → fr L q := fun q h => h
  intro n
  induction n with
  | zero => intro g x2 X h_ H locs ls hO hl hf; simp [fX7_learnPiles_7] at hf
  | succ n ih =>
    intro g x2 X hg H locs ls hO hl hf
    rw [fX7_learnPiles_7] at hf
    refine lv_iload_n hx hb dX7_learnPiles_7 rfl (lv_at hl 2 rfl) ?_
    refine lv_aload_n hx hb dX7_learnPiles_8 rfl (lv_at hl 1 rfl) ?_
    refine k_getN (k := 2) (v := .ref (L (aA g))) hx hb hts in_X7_learnPiles_X0 hown hK hN hO (aG_lt hg) (cn_G g) rfl (by decide) nx_field_X7_66 rfl dX7_learnPiles_9 ?_
    refine k_alen (v := 4) (t := 3) hx hb hK hO (aA_lt hg) (ct_A g) rfl rfl dX7_learnPiles_12 ?_
    refine lv_icmp_ge (tgt := 104) hx hb dX7_learnPiles_13 (by decide) (fun c_15 => ?_) (fun c_15 => ?_)
    · rw [if_pos c_15] at hf
      obtain rfl := Option.some.inj hf
      exact e_v hx hb hr hK hN hO hlocks dX7_learnPiles_104
    · rw [if_neg c_15] at hf
      refine lv_aload_n hx hb dX7_learnPiles_16 rfl (lv_at hl 1 rfl) ?_
      refine k_getN (k := 2) (v := .ref (L (aA g))) hx hb hts in_X7_learnPiles_X0 hown hK hN hO (aG_lt hg) (cn_G g) rfl (by decide) nx_field_X7_66 rfl dX7_learnPiles_17 ?_
      refine lv_iload_n hx hb dX7_learnPiles_20 rfl (lv_at hl 2 rfl) ?_
      replace hf := zd_some hf
      obtain ⟨hi_16, hf⟩ := hf
      refine k_aald hx hb hK hO (aA_lt hg) (ct_A g) rfl hi_16 dX7_learnPiles_21 ?_
      refine lv_topr (b := L (aP g (Int32.toNatClampNeg x2))) rfl ?_
      refine lv_astore_n (lv' := [(3, .ref (L (aP g (Int32.toNatClampNeg x2)))), (0, .ref (L 6)), (1, .ref (L (aG g))), (2, .int x2)]) hx hb dX7_learnPiles_22 rfl hl (by decide) rfl (fun ls_17 hl_17 => ?_)
      clear hl
      refine lv_aload_n hx hb dX7_learnPiles_23 rfl (lv_at hl_17 1 rfl) ?_
      refine lv_dup hx hb dX7_learnPiles_24 rfl ?_
      refine k_get (k := 6) (v := .int (X 13 2)) hx hb hts in_X7_learnPiles_X7 hown hK hO (by decide) rfl rfl (by decide) lk_X7_learnPiles_f116 rfl dX7_learnPiles_25 ?_
      refine lv_aload_n hx hb dX7_learnPiles_28 rfl (lv_at hl_17 0 rfl) ?_
      refine k_getN (k := 3) (v := .int (X g (13 + 4 * (Int32.toNatClampNeg x2)))) hx hb hts in_X7_learnPiles_X3 hown hK hN hO (aP_lt hg (vp_lt hi_16)) (cn_P g (Int32.toNatClampNeg x2) (vp_lt hi_16)) rfl (by decide) nx_field_X7_102 rfl dX7_learnPiles_29 ?_
      refine lv_if_eq (tgt := 41) hx hb dX7_learnPiles_32 (by decide) (fun c_18 => ?_) (fun c_18 => ?_)
      · rw [if_pos c_18] at hf
        refine lv_iconst (v := 0) hx hb dX7_learnPiles_41 (by decide) ?_
        refine lv_ior hx hb dX7_learnPiles_42 ?_
        refine k_put (ty := .int) (k := 6) (r := 13) (k' := 2) hx hb tyX7 tyX7_ok nmX7 hts in_X7_learnPiles_X7 hown hK  hL hA hO (by decide) rfl (by omega) (fun Y => rfl) (by simp [xup]) rfl (by decide) lk_X7_learnPiles_f116 rfl (by decide +kernel) rfl rfl (Nat.le_of_ble_eq_true rfl) dX7_learnPiles_43 (fun H_20 locs_20 hO_20 => ?_)
        replace hf := zl_some hf
        obtain ⟨X_19, hX_19, hf⟩ := hf
        have hQ_20 := zo_eq hX_19 hO_20
        clear hO_20 hO
        refine lv_iconst (v := 1) hx hb dX7_learnPiles_46 (by decide) ?_
        refine lv_istore (lv' := [(4, .int 1), (3, .ref (L (aP g (Int32.toNatClampNeg x2)))), (0, .ref (L 6)), (1, .ref (L (aG g))), (2, .int x2)]) hx hb dX7_learnPiles_47 hl_17 (by decide) rfl (fun ls_21 hl_21 => ?_)
        clear hl_17
        exact wX7_learnPiles_49 hL F _ ih fuel _ _ _ _ _ _ hg hg (vp_lt hi_16) _ _ _ hQ_20 (lv_sub hl_21 [2, 3, 4, 1, 0] rfl) hf
      · rw [if_neg c_18] at hf
        refine lv_iconst (v := 1) hx hb dX7_learnPiles_35 (by decide) ?_
        refine lv_iload_n hx hb dX7_learnPiles_36 rfl (lv_at hl_17 3 rfl) ?_
        refine lv_ishl hx hb dX7_learnPiles_37 ?_
        refine lv_goto (tgt := 42) hx hb dX7_learnPiles_38 (by decide) ?_
        refine lv_ior hx hb dX7_learnPiles_42 ?_
        refine k_put (ty := .int) (k := 6) (r := 13) (k' := 2) hx hb tyX7 tyX7_ok nmX7 hts in_X7_learnPiles_X7 hown hK  hL hA hO (by decide) rfl (by omega) (fun Y => rfl) (by simp [xup]) rfl (by decide) lk_X7_learnPiles_f116 rfl (by decide +kernel) rfl rfl (Nat.le_of_ble_eq_true rfl) dX7_learnPiles_43 (fun H_23 locs_23 hO_23 => ?_)
        replace hf := zl_some hf
        obtain ⟨X_22, hX_22, hf⟩ := hf
        have hQ_23 := zo_eq hX_22 hO_23
        clear hO_23 hO
        refine lv_iconst (v := 1) hx hb dX7_learnPiles_46 (by decide) ?_
        refine lv_istore (lv' := [(4, .int 1), (3, .ref (L (aP g (Int32.toNatClampNeg x2)))), (0, .ref (L 6)), (1, .ref (L (aG g))), (2, .int x2)]) hx hb dX7_learnPiles_47 hl_17 (by decide) rfl (fun ls_24 hl_24 => ?_)
        clear hl_17
        exact wX7_learnPiles_49 hL F _ ih fuel _ _ _ _ _ _ hg hg (vp_lt hi_16) _ _ _ hQ_23 (lv_sub hl_24 [2, 3, 4, 1, 0] rfl) hf
def fX7_learnPiles  (g : Nat) (X : XM) : Option XM := zl (xup X 13 2 0) (fun X_25 => fX7_learnPiles_7 fuel g 0 X_25)
set_option maxHeartbeats 4000000 in
set_option maxRecDepth 100000 in
theorem mX7_learnPiles (l : Launch) (D : va_G) (L : Nat → Nat) (ac : Nat → ClassId) (hL : LL L) (X : XM) (g : Nat) (hg : g < 11) (X0 : XM) (hf : fX7_learnPiles g X = some X0) : Cv l yX7_learnPiles wsX7_learnPiles ({ frames := 1, cells := 0, slots := 0, locals := 21 }) D L ac X [.ref (L 6), .ref (L (aG g))] X0 := by
  refine Met.ofK (cc := cX7_learnPiles) (maxL := 6) (ret := none) (lv := [(0, .ref (L 6)), (1, .ref (L (aG g)))]) (by decide +kernel) rfl (Nat.le_of_ble_eq_true rfl) rfl ?_
  intro p e s m below meth c F hO ls hl
  obtain ⟨hx, hb, hr, hts, hown, hlocks, hml, hK, hN⟩ := id F
  have hA : ∀ q, fr L q → fr L q := fun q h => h
  unfold fX7_learnPiles at hf
  refine lv_aload_n hx hb dX7_learnPiles_0 rfl (lv_at hl 0 rfl) ?_
  refine lv_iconst (v := 0) hx hb dX7_learnPiles_1 (by decide) ?_
  refine k_put (ty := .int) (k := 6) (r := 13) (k' := 2) hx hb tyX7 tyX7_ok nmX7 hts in_X7_learnPiles_X7 hown hK  hL hA hO (by decide) rfl (by omega) (fun Y => rfl) (by simp [xup]) rfl (by decide) lk_X7_learnPiles_f116 rfl (by decide +kernel) rfl rfl (Nat.le_of_ble_eq_true rfl) dX7_learnPiles_2 (fun H_26 locs_26 hO_26 => ?_)
  replace hf := zl_some hf
  obtain ⟨X_25, hX_25, hf⟩ := hf
  have hQ_26 := zo_eq hX_25 hO_26
  clear hO_26 hO
  refine lv_iconst (v := 0) hx hb dX7_learnPiles_5 (by decide) ?_
  refine lv_istore_n (lv' := [(2, .int 0), (0, .ref (L 6)), (1, .ref (L (aG g)))]) hx hb dX7_learnPiles_6 rfl hl (by decide) rfl (fun ls_27 hl_27 => ?_)
  clear hl
  exact wX7_learnPiles_7 hL F  fuel _ _ _ hg _ _ _ hQ_26 (lv_sub hl_27 [1, 2, 0] rfl) hf
theorem in_X7_learnRules_X0 : ∀ w ∈ u_ws RX0 TX0 10, w ∈ wsX7_learnRules := by decide +kernel
theorem in_X7_learnRules_X3 : ∀ w ∈ u_ws RX3 TX3 4, w ∈ wsX7_learnRules := by decide +kernel
theorem in_X7_learnRules_X7 : ∀ w ∈ u_ws RX7 TX7 8, w ∈ wsX7_learnRules := by decide +kernel
theorem lk_X7_learnRules_c24 : Cond.constant RX7 24 (-100000) ∈ wsX7_learnRules := by decide +kernel
theorem lk_X7_learnRules_f11 : Cond.fieldLink RX7 11 "PoisonPiles$Solver" "values" "[I" ∈ wsX7_learnRules := by decide +kernel
theorem lk_X7_learnRules_f111 : Cond.fieldLink RX7 111 "PoisonPiles$Solver" "takes" "I" ∈ wsX7_learnRules := by decide +kernel
theorem lk_X7_learnRules_f112 : Cond.fieldLink RX7 112 "PoisonPiles$Solver" "bonus" "I" ∈ wsX7_learnRules := by decide +kernel
theorem lk_X7_learnRules_f15 : Cond.fieldLink RX7 15 "PoisonPiles$Solver" "results" "[I" ∈ wsX7_learnRules := by decide +kernel
theorem lk_X7_learnRules_f25 : Cond.fieldLink RX7 25 "PoisonPiles$Solver" "knownRules" "I" ∈ wsX7_learnRules := by decide +kernel
def fX7_learnRules_25   : Nat → Nat → Int32 → Nat → Int32 → Int32 → XM → Option XM
  | 0, _, _, _, _, _, _ => none
  | n + 1, g, x2, y3a, x4, x5, X => if x4 ≤ x5 then if x2 = (X 13 3) then some X else zv (fJ7_fill_VAL (-100000) X) (fun X_3 => zv (fJ7_fill_RES (-100000) X_3) (fun X_5 => zl (xup X_5 13 0 (X_5 g 0)) (fun X_7 => zl (xup X_7 13 1 (X_7 g 1)) (fun X_9 => zv (fX7_learnPiles g X_9) (fun X_11 => zl (xup X_11 13 3 x2) (fun X_13 => some X_13)))))) else zd x5 4 (if (X y3a (13 + 4 * (Int32.toNatClampNeg x5))) = 0 then zl ((((x2 * 2) * 10) + (2 * (X y3a (12 + 4 * (Int32.toNatClampNeg x5))))) + 0) (fun v_18 => fX7_learnRules_25 n g v_18 y3a x4 (x5 + 1) X) else zl ((((x2 * 2) * 10) + (2 * (X y3a (12 + 4 * (Int32.toNatClampNeg x5))))) + 1) (fun v_21 => fX7_learnRules_25 n g v_21 y3a x4 (x5 + 1) X))
set_option maxHeartbeats 4000000 in
set_option maxRecDepth 100000 in
theorem wX7_learnRules_25 {p : Program} {l : Launch} {e : Env} {s : State} {m : MethodId} {args : Array Value} {below : List Frame} {meth : Method} {c : Code} {D : va_G} {L : Nat → Nat} {ac : Nat → ClassId} {X0 : XM} (hL : LL L) (F : Fx p s m args meth c cX7_learnRules 7 none wsX7_learnRules yX7_learnRules.cls D ac) : ∀ (n : Nat) (g : Nat) (x2 : Int32) (y3a : Nat) (x4 : Int32) (x5 : Int32) (X : XM) (_ : g < 11) (_ : y3a < 11) (H : Heap) (locs : List Loc) (ls : Array Slot), Oh D L ac X (fr L) s.heap H locs → lv_has ls 7 [(0, .ref (L 6)), (1, .ref (L (aG g))), (2, .int x2), (3, .ref (L (aA y3a))), (4, .int x4), (5, .int x5)] → fX7_learnRules_25 n g x2 y3a x4 x5 X = some X0 → W p l e (headSpec wsX7_learnRules ({ frames := 2, cells := 0, slots := 0, locals := 46 })).room s m args below meth c H locs 0 0 (MQ below (va_Qv (fun (Y : XM) => Y = X0) (fun (Y : XM) t => St D L ac Y t) (fr L)) args s 0 0 (fr L)) (F0 m 25 ls []) := by
  obtain ⟨hx, hb, hr, hts, hown, hlocks, hml, hK, hN⟩ := id F
  have hA : ∀ q, fr L q → fr L q := fun q h => h
  intro n
  induction n with
  | zero => intro g x2 y3a x4 x5 X h_ h_ H locs ls hO hl hf; simp [fX7_learnRules_25] at hf
  | succ n ih =>
    intro g x2 y3a x4 x5 X hg hy3a H locs ls hO hl hf
    rw [fX7_learnRules_25] at hf
    refine lv_iload hx hb dX7_learnRules_25 (lv_at hl 5 rfl) ?_
    refine lv_iload hx hb dX7_learnRules_27 (lv_at hl 4 rfl) ?_
    refine lv_icmp_ge (tgt := 73) hx hb dX7_learnRules_29 (by decide) (fun c_1 => ?_) (fun c_1 => ?_)
    · rw [if_pos c_1] at hf
      refine lv_iload_n hx hb dX7_learnRules_73 rfl (lv_at hl 2 rfl) ?_
      refine lv_aload_n hx hb dX7_learnRules_74 rfl (lv_at hl 0 rfl) ?_
      refine k_get (k := 7) (v := .int (X 13 3)) hx hb hts in_X7_learnRules_X7 hown hK hO (by decide) rfl rfl (by decide) lk_X7_learnRules_f25 rfl dX7_learnRules_75 ?_
      refine lv_icmp_eq (tgt := 125) hx hb dX7_learnRules_78 (by decide) (fun c_2 => ?_) (fun c_2 => ?_)
      · rw [if_pos c_2] at hf
        obtain rfl := Option.some.inj hf
        exact e_v hx hb hr hK hN hO hlocks dX7_learnRules_125
      · rw [if_neg c_2] at hf
        refine lv_aload_n hx hb dX7_learnRules_81 rfl (lv_at hl 0 rfl) ?_
        refine k_get (k := 0) (v := .ref (L 7)) hx hb hts in_X7_learnRules_X7 hown hK hO (by decide) rfl rfl (by decide) lk_X7_learnRules_f11 rfl dX7_learnRules_82 ?_
        refine lv_ldc (v := (-100000)) hx hb hown (hts _ lk_X7_learnRules_c24) dX7_learnRules_85 ?_
        replace hf := zv_some hf
        obtain ⟨X_3, hc_3, hf⟩ := hf
        refine k_av (va_runS (As := [.ref (L 7), .int (-100000)]) (rest := []) ⟨hx, hb, hml, hown, hts⟩ ((mJ7_fill_VAL l D L ac hL) _ (-100000) _ hc_3) (va_cwS 2 hts gX7_learnRules_J7_fill_53178 rfl rfl rfl (by decide +kernel) ⟨Nat.le_of_ble_eq_true rfl, Nat.le_of_ble_eq_true rfl⟩) (k_ps hK hN hO _) rfl rfl hl.1 rfl (lv_room (Nat.le_of_ble_eq_true rfl)) dX7_learnRules_87 ⟨Nat.le_of_ble_eq_true rfl, Nat.le_of_ble_eq_true rfl⟩) hA hO (fun H_4 locs_4 hO_4 => ?_)
        clear hO
        refine lv_aload_n hx hb dX7_learnRules_90 rfl (lv_at hl 0 rfl) ?_
        refine k_get (k := 1) (v := .ref (L 8)) hx hb hts in_X7_learnRules_X7 hown hK hO_4 (by decide) rfl rfl (by decide) lk_X7_learnRules_f15 rfl dX7_learnRules_91 ?_
        refine lv_ldc (v := (-100000)) hx hb hown (hts _ lk_X7_learnRules_c24) dX7_learnRules_94 ?_
        replace hf := zv_some hf
        obtain ⟨X_5, hc_5, hf⟩ := hf
        refine k_av (va_runS (As := [.ref (L 8), .int (-100000)]) (rest := []) ⟨hx, hb, hml, hown, hts⟩ ((mJ7_fill_RES l D L ac hL) _ (-100000) _ hc_5) (va_cwS 2 hts gX7_learnRules_J7_fill_53178 rfl rfl rfl (by decide +kernel) ⟨Nat.le_of_ble_eq_true rfl, Nat.le_of_ble_eq_true rfl⟩) (k_ps hK hN hO_4 _) rfl rfl hl.1 rfl (lv_room (Nat.le_of_ble_eq_true rfl)) dX7_learnRules_96 ⟨Nat.le_of_ble_eq_true rfl, Nat.le_of_ble_eq_true rfl⟩) hA hO_4 (fun H_6 locs_6 hO_6 => ?_)
        clear hO_4
        refine lv_aload_n hx hb dX7_learnRules_99 rfl (lv_at hl 0 rfl) ?_
        refine lv_aload_n hx hb dX7_learnRules_100 rfl (lv_at hl 1 rfl) ?_
        refine k_getN (k := 0) (v := .int (X_5 g 0)) hx hb hts in_X7_learnRules_X0 hown hK hN hO_6 (aG_lt hg) (cn_G g) rfl (by decide) nx_field_X7_93 rfl dX7_learnRules_101 ?_
        refine k_put (ty := .int) (k := 4) (r := 13) (k' := 0) hx hb tyX7 tyX7_ok nmX7 hts in_X7_learnRules_X7 hown hK  hL hA hO_6 (by decide) rfl (by omega) (fun Y => rfl) (by simp [xup]) rfl (by decide) lk_X7_learnRules_f111 rfl (by decide +kernel) rfl rfl (Nat.le_of_ble_eq_true rfl) dX7_learnRules_104 (fun H_8 locs_8 hO_8 => ?_)
        replace hf := zl_some hf
        obtain ⟨X_7, hX_7, hf⟩ := hf
        have hQ_8 := zo_eq hX_7 hO_8
        clear hO_8 hO_6
        refine lv_aload_n hx hb dX7_learnRules_107 rfl (lv_at hl 0 rfl) ?_
        refine lv_aload_n hx hb dX7_learnRules_108 rfl (lv_at hl 1 rfl) ?_
        refine k_getN (k := 1) (v := .int (X_7 g 1)) hx hb hts in_X7_learnRules_X0 hown hK hN hQ_8 (aG_lt hg) (cn_G g) rfl (by decide) nx_field_X7_96 rfl dX7_learnRules_109 ?_
        refine k_put (ty := .int) (k := 5) (r := 13) (k' := 1) hx hb tyX7 tyX7_ok nmX7 hts in_X7_learnRules_X7 hown hK  hL hA hQ_8 (by decide) rfl (by omega) (fun Y => rfl) (by simp [xup]) rfl (by decide) lk_X7_learnRules_f112 rfl (by decide +kernel) rfl rfl (Nat.le_of_ble_eq_true rfl) dX7_learnRules_112 (fun H_10 locs_10 hO_10 => ?_)
        replace hf := zl_some hf
        obtain ⟨X_9, hX_9, hf⟩ := hf
        have hQ_10 := zo_eq hX_9 hO_10
        clear hO_10 hQ_8
        refine lv_aload_n hx hb dX7_learnRules_115 rfl (lv_at hl 0 rfl) ?_
        refine lv_aload_n hx hb dX7_learnRules_116 rfl (lv_at hl 1 rfl) ?_
        replace hf := zv_some hf
        obtain ⟨X_11, hc_11, hf⟩ := hf
        refine k_av (va_runV (As := [.ref (L (aG g))]) (rest := []) ⟨hx, hb, hml, hown, hts⟩ (mX7_learnPiles l D L ac hL _ g hg _ hc_11) (cwV 1 hts gX7_learnRules_X7_learnPiles rfl rfl rfl (by decide +kernel) ⟨Nat.le_of_ble_eq_true rfl, Nat.le_of_ble_eq_true rfl⟩) (k_pv (j := 6) hK hN hQ_10 (by decide) rfl rfl _) rfl rfl hl.1 rfl (lv_room (Nat.le_of_ble_eq_true rfl)) dX7_learnRules_117 ⟨Nat.le_of_ble_eq_true rfl, Nat.le_of_ble_eq_true rfl⟩) hA hQ_10 (fun H_12 locs_12 hO_12 => ?_)
        clear hQ_10
        refine lv_aload_n hx hb dX7_learnRules_120 rfl (lv_at hl 0 rfl) ?_
        refine lv_iload_n hx hb dX7_learnRules_121 rfl (lv_at hl 2 rfl) ?_
        refine k_put (ty := .int) (k := 7) (r := 13) (k' := 3) hx hb tyX7 tyX7_ok nmX7 hts in_X7_learnRules_X7 hown hK  hL hA hO_12 (by decide) rfl (by omega) (fun Y => rfl) (by simp [xup]) rfl (by decide) lk_X7_learnRules_f25 rfl (by decide +kernel) rfl rfl (Nat.le_of_ble_eq_true rfl) dX7_learnRules_122 (fun H_14 locs_14 hO_14 => ?_)
        replace hf := zl_some hf
        obtain ⟨X_13, hX_13, hf⟩ := hf
        have hQ_14 := zo_eq hX_13 hO_14
        clear hO_14 hO_12
        obtain rfl := Option.some.inj hf
        exact e_v hx hb hr hK hN hQ_14 hlocks dX7_learnRules_125
    · rw [if_neg c_1] at hf
      refine lv_aload_n hx hb dX7_learnRules_32 rfl (lv_at hl 3 rfl) ?_
      refine lv_iload hx hb dX7_learnRules_33 (lv_at hl 5 rfl) ?_
      replace hf := zd_some hf
      obtain ⟨hi_15, hf⟩ := hf
      refine k_aald hx hb hK hO (aA_lt hy3a) (ct_A y3a) rfl hi_15 dX7_learnRules_35 ?_
      refine lv_topr (b := L (aP y3a (Int32.toNatClampNeg x5))) rfl ?_
      refine lv_astore (lv' := [(6, .ref (L (aP y3a (Int32.toNatClampNeg x5)))), (0, .ref (L 6)), (1, .ref (L (aG g))), (2, .int x2), (3, .ref (L (aA y3a))), (4, .int x4), (5, .int x5)]) hx hb dX7_learnRules_36 hl (by decide) rfl (fun ls_16 hl_16 => ?_)
      clear hl
      refine lv_iload_n hx hb dX7_learnRules_38 rfl (lv_at hl_16 3 rfl) ?_
      refine lv_iconst (v := 2) hx hb dX7_learnRules_39 (by decide) ?_
      refine lv_imul hx hb dX7_learnRules_40 ?_
      refine lv_bipush (v := 10) hx hb dX7_learnRules_41 (by decide) ?_
      refine lv_imul hx hb dX7_learnRules_43 ?_
      refine lv_iconst (v := 2) hx hb dX7_learnRules_44 (by decide) ?_
      refine lv_aload hx hb dX7_learnRules_45 (lv_at hl_16 0 rfl) ?_
      refine k_getN (k := 2) (v := .int (X y3a (12 + 4 * (Int32.toNatClampNeg x5)))) hx hb hts in_X7_learnRules_X3 hown hK hN hO (aP_lt hy3a (vp_lt hi_15)) (cn_P y3a (Int32.toNatClampNeg x5) (vp_lt hi_15)) rfl (by decide) nx_field_X7_99 rfl dX7_learnRules_47 ?_
      refine lv_imul hx hb dX7_learnRules_50 ?_
      refine lv_iadd hx hb dX7_learnRules_51 ?_
      refine lv_aload hx hb dX7_learnRules_52 (lv_at hl_16 0 rfl) ?_
      refine k_getN (k := 3) (v := .int (X y3a (13 + 4 * (Int32.toNatClampNeg x5)))) hx hb hts in_X7_learnRules_X3 hown hK hN hO (aP_lt hy3a (vp_lt hi_15)) (cn_P y3a (Int32.toNatClampNeg x5) (vp_lt hi_15)) rfl (by decide) nx_field_X7_102 rfl dX7_learnRules_54 ?_
      refine lv_if_eq (tgt := 64) hx hb dX7_learnRules_57 (by decide) (fun c_17 => ?_) (fun c_17 => ?_)
      · rw [if_pos c_17] at hf
        refine lv_iconst (v := 0) hx hb dX7_learnRules_64 (by decide) ?_
        refine lv_iadd hx hb dX7_learnRules_65 ?_
        replace hf := zl_some hf
        obtain ⟨v_18, hv_18, hf⟩ := hf
        refine lv_tope hv_18 ?_
        refine lv_istore_n (lv' := [(2, .int v_18), (6, .ref (L (aP y3a (Int32.toNatClampNeg x5)))), (0, .ref (L 6)), (1, .ref (L (aG g))), (3, .ref (L (aA y3a))), (4, .int x4), (5, .int x5)]) hx hb dX7_learnRules_66 rfl hl_16 (by decide) rfl (fun ls_19 hl_19 => ?_)
        clear hl_16
        refine lv_iinc (v := x5 + 1) (lv' := [(5, .int (x5 + 1)), (2, .int v_18), (6, .ref (L (aP y3a (Int32.toNatClampNeg x5)))), (0, .ref (L 6)), (1, .ref (L (aG g))), (3, .ref (L (aA y3a))), (4, .int x4)]) hx hb dX7_learnRules_67 hl_19 (k := 6) rfl rfl (by decide) rfl (fun ls_20 hl_20 => ?_)
        clear hl_19
        refine lv_goto (tgt := 25) hx hb dX7_learnRules_70 (by decide) ?_
        exact ih _ _ _ _ _ _ hg hy3a _ _ _ hO (lv_sub hl_20 [3, 4, 1, 5, 6, 0] rfl) hf
      · rw [if_neg c_17] at hf
        refine lv_iconst (v := 1) hx hb dX7_learnRules_60 (by decide) ?_
        refine lv_goto (tgt := 65) hx hb dX7_learnRules_61 (by decide) ?_
        refine lv_iadd hx hb dX7_learnRules_65 ?_
        replace hf := zl_some hf
        obtain ⟨v_21, hv_21, hf⟩ := hf
        refine lv_tope hv_21 ?_
        refine lv_istore_n (lv' := [(2, .int v_21), (6, .ref (L (aP y3a (Int32.toNatClampNeg x5)))), (0, .ref (L 6)), (1, .ref (L (aG g))), (3, .ref (L (aA y3a))), (4, .int x4), (5, .int x5)]) hx hb dX7_learnRules_66 rfl hl_16 (by decide) rfl (fun ls_22 hl_22 => ?_)
        clear hl_16
        refine lv_iinc (v := x5 + 1) (lv' := [(5, .int (x5 + 1)), (2, .int v_21), (6, .ref (L (aP y3a (Int32.toNatClampNeg x5)))), (0, .ref (L 6)), (1, .ref (L (aG g))), (3, .ref (L (aA y3a))), (4, .int x4)]) hx hb dX7_learnRules_67 hl_22 (k := 6) rfl rfl (by decide) rfl (fun ls_23 hl_23 => ?_)
        clear hl_22
        refine lv_goto (tgt := 25) hx hb dX7_learnRules_70 (by decide) ?_
        exact ih _ _ _ _ _ _ hg hy3a _ _ _ hO (lv_sub hl_23 [3, 4, 1, 5, 6, 0] rfl) hf
def fX7_learnRules  (g : Nat) (X : XM) : Option XM := zl (((X g 0) * 100) + (X g 1)) (fun v_24 => fX7_learnRules_25 fuel g v_24 g 4 0 X)
set_option maxHeartbeats 4000000 in
set_option maxRecDepth 100000 in
theorem mX7_learnRules (l : Launch) (D : va_G) (L : Nat → Nat) (ac : Nat → ClassId) (hL : LL L) (X : XM) (g : Nat) (hg : g < 11) (X0 : XM) (hf : fX7_learnRules g X = some X0) : Cv l yX7_learnRules wsX7_learnRules ({ frames := 2, cells := 0, slots := 0, locals := 46 }) D L ac X [.ref (L 6), .ref (L (aG g))] X0 := by
  refine Met.ofK (cc := cX7_learnRules) (maxL := 7) (ret := none) (lv := [(0, .ref (L 6)), (1, .ref (L (aG g)))]) (by decide +kernel) rfl (Nat.le_of_ble_eq_true rfl) rfl ?_
  intro p e s m below meth c F hO ls hl
  obtain ⟨hx, hb, hr, hts, hown, hlocks, hml, hK, hN⟩ := id F
  have hA : ∀ q, fr L q → fr L q := fun q h => h
  unfold fX7_learnRules at hf
  refine lv_aload_n hx hb dX7_learnRules_0 rfl (lv_at hl 1 rfl) ?_
  refine k_getN (k := 0) (v := .int (X g 0)) hx hb hts in_X7_learnRules_X0 hown hK hN hO (aG_lt hg) (cn_G g) rfl (by decide) nx_field_X7_93 rfl dX7_learnRules_1 ?_
  refine lv_bipush (v := 100) hx hb dX7_learnRules_4 (by decide) ?_
  refine lv_imul hx hb dX7_learnRules_6 ?_
  refine lv_aload_n hx hb dX7_learnRules_7 rfl (lv_at hl 1 rfl) ?_
  refine k_getN (k := 1) (v := .int (X g 1)) hx hb hts in_X7_learnRules_X0 hown hK hN hO (aG_lt hg) (cn_G g) rfl (by decide) nx_field_X7_96 rfl dX7_learnRules_8 ?_
  refine lv_iadd hx hb dX7_learnRules_11 ?_
  replace hf := zl_some hf
  obtain ⟨v_24, hv_24, hf⟩ := hf
  refine lv_tope hv_24 ?_
  refine lv_istore_n (lv' := [(2, .int v_24), (0, .ref (L 6)), (1, .ref (L (aG g)))]) hx hb dX7_learnRules_12 rfl hl (by decide) rfl (fun ls_25 hl_25 => ?_)
  clear hl
  refine lv_aload_n hx hb dX7_learnRules_13 rfl (lv_at hl_25 2 rfl) ?_
  refine k_getN (k := 2) (v := .ref (L (aA g))) hx hb hts in_X7_learnRules_X0 hown hK hN hO (aG_lt hg) (cn_G g) rfl (by decide) nx_field_X7_66 rfl dX7_learnRules_14 ?_
  refine lv_astore_n (lv' := [(3, .ref (L (aA g))), (2, .int v_24), (0, .ref (L 6)), (1, .ref (L (aG g)))]) hx hb dX7_learnRules_17 rfl hl_25 (by decide) rfl (fun ls_26 hl_26 => ?_)
  clear hl_25
  refine lv_aload_n hx hb dX7_learnRules_18 rfl (lv_at hl_26 0 rfl) ?_
  refine k_alen (v := 4) (t := 3) hx hb hK hO (aA_lt hg) (ct_A g) rfl rfl dX7_learnRules_19 ?_
  refine lv_istore (lv' := [(4, .int 4), (3, .ref (L (aA g))), (2, .int v_24), (0, .ref (L 6)), (1, .ref (L (aG g)))]) hx hb dX7_learnRules_20 hl_26 (by decide) rfl (fun ls_27 hl_27 => ?_)
  clear hl_26
  refine lv_iconst (v := 0) hx hb dX7_learnRules_22 (by decide) ?_
  refine lv_istore (lv' := [(5, .int 0), (4, .int 4), (3, .ref (L (aA g))), (2, .int v_24), (0, .ref (L 6)), (1, .ref (L (aG g)))]) hx hb dX7_learnRules_23 hl_27 (by decide) rfl (fun ls_28 hl_28 => ?_)
  clear hl_27
  exact wX7_learnRules_25 hL F  fuel _ _ _ _ _ _ hg hg _ _ _ hO (lv_sub hl_28 [4, 5, 3, 2, 1, 0] rfl) hf
theorem in_X7_spotOf_X0 : ∀ w ∈ u_ws RX0 TX0 10, w ∈ wsX7_spotOf := by decide +kernel
theorem in_X7_spotOf_X3 : ∀ w ∈ u_ws RX3 TX3 4, w ∈ wsX7_spotOf := by decide +kernel
theorem in_X7_spotOf_X4 : ∀ w ∈ u_ws RX4 TX4 2, w ∈ wsX7_spotOf := by decide +kernel
theorem lk_X7_spotOf_eX0_player : Cond.selects RX0 yX0_player yX0_player ∈ wsX7_spotOf := by decide +kernel
theorem lk_X7_spotOf_iX0 : Cond.initialized RX0 ∈ wsX7_spotOf := by decide +kernel
theorem lk_X7_spotOf_mX0_player : Cond.instanceMethod yX0_player ∈ wsX7_spotOf := by decide +kernel
def fX7_spotOf  (g : Nat) (X : XM) : Option (Int32 × XM) := zv (fX7_learnRules g X) (fun X_1 => zl (0 + (X_1 g 23)) (fun v_6 => zl ((v_6 * 6) + (X_1 g 19)) (fun v_10 => zl ((v_10 * 6) + (X_1 g 15)) (fun v_14 => zl ((v_14 * 6) + (X_1 g 11)) (fun v_18 => if (X_1 g 4) = 0 then zi (fX0_player g (X_1 g 3) X_1) (fun r_25 X_24 => zl (X_24 g (7 + r_25)) (fun v_27 => zi (fX0_player g (1 - (X_24 g 3)) X_24) (fun r_30 X_29 => zl (X_29 g (7 + r_30)) (fun v_32 => some ((((v_18 * 18) + 9) + (v_27 * 3)) + v_32, X_29))))) else zi (fX0_player g (X_1 g 3) X_1) (fun r_36 X_35 => zl (X_35 g (7 + r_36)) (fun v_38 => zi (fX0_player g (1 - (X_35 g 3)) X_35) (fun r_41 X_40 => zl (X_40 g (7 + r_41)) (fun v_43 => some ((((v_18 * 18) + 0) + (v_38 * 3)) + v_43, X_40))))))))))
set_option maxHeartbeats 4000000 in
set_option maxRecDepth 100000 in
theorem mX7_spotOf (l : Launch) (D : va_G) (L : Nat → Nat) (ac : Nat → ClassId) (hL : LL L) (X : XM) (g : Nat) (hg : g < 11) (r0 : Int32) (X0 : XM) (hf : fX7_spotOf g X = some (r0, X0)) : Ci l yX7_spotOf wsX7_spotOf ({ frames := 3, cells := 0, slots := 0, locals := 72 }) D L ac X [.ref (L 6), .ref (L (aG g))] r0 X0 := by
  refine Met.ofK (cc := cX7_spotOf) (maxL := 6) (ret := (some .int)) (lv := [(0, .ref (L 6)), (1, .ref (L (aG g)))]) (by decide +kernel) rfl (Nat.le_of_ble_eq_true rfl) rfl ?_
  intro p e s m below meth c F hO ls hl
  obtain ⟨hx, hb, hr, hts, hown, hlocks, hml, hK, hN⟩ := id F
  have hA : ∀ q, fr L q → fr L q := fun q h => h
  unfold fX7_spotOf at hf
  refine lv_aload_n hx hb dX7_spotOf_0 rfl (lv_at hl 0 rfl) ?_
  refine lv_aload_n hx hb dX7_spotOf_1 rfl (lv_at hl 1 rfl) ?_
  replace hf := zv_some hf
  obtain ⟨X_1, hc_1, hf⟩ := hf
  refine k_av (va_runV (As := [.ref (L (aG g))]) (rest := []) ⟨hx, hb, hml, hown, hts⟩ (mX7_learnRules l D L ac hL _ g hg _ hc_1) (cwV 1 hts gX7_spotOf_X7_learnRules rfl rfl rfl (by decide +kernel) ⟨Nat.le_of_ble_eq_true rfl, Nat.le_of_ble_eq_true rfl⟩) (k_pv (j := 6) hK hN hO (by decide) rfl rfl _) rfl rfl hl.1 rfl (lv_room (Nat.le_of_ble_eq_true rfl)) dX7_spotOf_2 ⟨Nat.le_of_ble_eq_true rfl, Nat.le_of_ble_eq_true rfl⟩) hA hO (fun H_2 locs_2 hO_2 => ?_)
  clear hO
  refine lv_iconst (v := 0) hx hb dX7_spotOf_5 (by decide) ?_
  refine lv_istore_n (lv' := [(2, .int 0), (0, .ref (L 6)), (1, .ref (L (aG g)))]) hx hb dX7_spotOf_6 rfl hl (by decide) rfl (fun ls_3 hl_3 => ?_)
  clear hl
  refine lv_aload_n hx hb dX7_spotOf_7 rfl (lv_at hl_3 2 rfl) ?_
  refine k_getN (k := 2) (v := .ref (L (aA g))) hx hb hts in_X7_spotOf_X0 hown hK hN hO_2 (aG_lt hg) (cn_G g) rfl (by decide) nx_field_X7_66 rfl dX7_spotOf_8 ?_
  refine k_alen (v := 4) (t := 3) hx hb hK hO_2 (aA_lt hg) (ct_A g) rfl rfl dX7_spotOf_11 ?_
  refine lv_iconst (v := 1) hx hb dX7_spotOf_12 (by decide) ?_
  refine lv_isub hx hb dX7_spotOf_13 ?_
  refine lv_tope (z := 3) (by decide) ?_
  refine lv_istore_n (lv' := [(3, .int 3), (2, .int 0), (0, .ref (L 6)), (1, .ref (L (aG g)))]) hx hb dX7_spotOf_14 rfl hl_3 (by decide) rfl (fun ls_4 hl_4 => ?_)
  clear hl_3
  refine lv_iload_n hx hb dX7_spotOf_15 rfl (lv_at hl_4 0 rfl) ?_
  refine lv_if_lt (tgt := 40) hx hb dX7_spotOf_16 (by decide) (fun c_5 => absurd c_5 (by decide)) (fun _ => ?_)
  refine lv_iload_n hx hb dX7_spotOf_19 rfl (lv_at hl_4 1 rfl) ?_
  refine lv_bipush (v := 6) hx hb dX7_spotOf_20 (by decide) ?_
  refine lv_imul hx hb dX7_spotOf_22 ?_
  refine lv_tope (z := 0) (by decide) ?_
  refine lv_aload_n hx hb dX7_spotOf_23 rfl (lv_at hl_4 3 rfl) ?_
  refine k_getN (k := 2) (v := .ref (L (aA g))) hx hb hts in_X7_spotOf_X0 hown hK hN hO_2 (aG_lt hg) (cn_G g) rfl (by decide) nx_field_X7_66 rfl dX7_spotOf_24 ?_
  refine lv_iload_n hx hb dX7_spotOf_27 rfl (lv_at hl_4 0 rfl) ?_
  refine k_aald hx hb hK hO_2 (aA_lt hg) (ct_A g) rfl (show vp_in 3 4 from by unfold vp_in; decide) dX7_spotOf_28 ?_
  refine lv_topr (b := L (aP g 3)) rfl ?_
  refine k_getN (k := 0) (v := .int (X_1 g 23)) hx hb hts in_X7_spotOf_X3 hown hK hN hO_2 (aP_lt hg (by decide)) (cn_P g 3 (by decide)) rfl (by decide) nx_field_X7_72 rfl dX7_spotOf_29 ?_
  refine lv_iadd hx hb dX7_spotOf_32 ?_
  replace hf := zl_some hf
  obtain ⟨v_6, hv_6, hf⟩ := hf
  refine lv_tope hv_6 ?_
  refine lv_istore_n (lv' := [(2, .int v_6), (3, .int 3), (0, .ref (L 6)), (1, .ref (L (aG g)))]) hx hb dX7_spotOf_33 rfl hl_4 (by decide) rfl (fun ls_7 hl_7 => ?_)
  clear hl_4
  refine lv_iinc (v := 2) (lv' := [(3, .int 2), (2, .int v_6), (0, .ref (L 6)), (1, .ref (L (aG g)))]) hx hb dX7_spotOf_34 hl_7 (k := 1) rfl (by decide) (by decide) rfl (fun ls_8 hl_8 => ?_)
  clear hl_7
  refine lv_goto (tgt := 15) hx hb dX7_spotOf_37 (by decide) ?_
  refine lv_iload_n hx hb dX7_spotOf_15 rfl (lv_at hl_8 0 rfl) ?_
  refine lv_if_lt (tgt := 40) hx hb dX7_spotOf_16 (by decide) (fun c_9 => absurd c_9 (by decide)) (fun _ => ?_)
  refine lv_iload_n hx hb dX7_spotOf_19 rfl (lv_at hl_8 1 rfl) ?_
  refine lv_bipush (v := 6) hx hb dX7_spotOf_20 (by decide) ?_
  refine lv_imul hx hb dX7_spotOf_22 ?_
  refine lv_aload_n hx hb dX7_spotOf_23 rfl (lv_at hl_8 3 rfl) ?_
  refine k_getN (k := 2) (v := .ref (L (aA g))) hx hb hts in_X7_spotOf_X0 hown hK hN hO_2 (aG_lt hg) (cn_G g) rfl (by decide) nx_field_X7_66 rfl dX7_spotOf_24 ?_
  refine lv_iload_n hx hb dX7_spotOf_27 rfl (lv_at hl_8 0 rfl) ?_
  refine k_aald hx hb hK hO_2 (aA_lt hg) (ct_A g) rfl (show vp_in 2 4 from by unfold vp_in; decide) dX7_spotOf_28 ?_
  refine lv_topr (b := L (aP g 2)) rfl ?_
  refine k_getN (k := 0) (v := .int (X_1 g 19)) hx hb hts in_X7_spotOf_X3 hown hK hN hO_2 (aP_lt hg (by decide)) (cn_P g 2 (by decide)) rfl (by decide) nx_field_X7_72 rfl dX7_spotOf_29 ?_
  refine lv_iadd hx hb dX7_spotOf_32 ?_
  replace hf := zl_some hf
  obtain ⟨v_10, hv_10, hf⟩ := hf
  refine lv_tope hv_10 ?_
  refine lv_istore_n (lv' := [(2, .int v_10), (3, .int 2), (0, .ref (L 6)), (1, .ref (L (aG g)))]) hx hb dX7_spotOf_33 rfl hl_8 (by decide) rfl (fun ls_11 hl_11 => ?_)
  clear hl_8
  refine lv_iinc (v := 1) (lv' := [(3, .int 1), (2, .int v_10), (0, .ref (L 6)), (1, .ref (L (aG g)))]) hx hb dX7_spotOf_34 hl_11 (k := 1) rfl (by decide) (by decide) rfl (fun ls_12 hl_12 => ?_)
  clear hl_11
  refine lv_goto (tgt := 15) hx hb dX7_spotOf_37 (by decide) ?_
  refine lv_iload_n hx hb dX7_spotOf_15 rfl (lv_at hl_12 0 rfl) ?_
  refine lv_if_lt (tgt := 40) hx hb dX7_spotOf_16 (by decide) (fun c_13 => absurd c_13 (by decide)) (fun _ => ?_)
  refine lv_iload_n hx hb dX7_spotOf_19 rfl (lv_at hl_12 1 rfl) ?_
  refine lv_bipush (v := 6) hx hb dX7_spotOf_20 (by decide) ?_
  refine lv_imul hx hb dX7_spotOf_22 ?_
  refine lv_aload_n hx hb dX7_spotOf_23 rfl (lv_at hl_12 3 rfl) ?_
  refine k_getN (k := 2) (v := .ref (L (aA g))) hx hb hts in_X7_spotOf_X0 hown hK hN hO_2 (aG_lt hg) (cn_G g) rfl (by decide) nx_field_X7_66 rfl dX7_spotOf_24 ?_
  refine lv_iload_n hx hb dX7_spotOf_27 rfl (lv_at hl_12 0 rfl) ?_
  refine k_aald hx hb hK hO_2 (aA_lt hg) (ct_A g) rfl (show vp_in 1 4 from by unfold vp_in; decide) dX7_spotOf_28 ?_
  refine lv_topr (b := L (aP g 1)) rfl ?_
  refine k_getN (k := 0) (v := .int (X_1 g 15)) hx hb hts in_X7_spotOf_X3 hown hK hN hO_2 (aP_lt hg (by decide)) (cn_P g 1 (by decide)) rfl (by decide) nx_field_X7_72 rfl dX7_spotOf_29 ?_
  refine lv_iadd hx hb dX7_spotOf_32 ?_
  replace hf := zl_some hf
  obtain ⟨v_14, hv_14, hf⟩ := hf
  refine lv_tope hv_14 ?_
  refine lv_istore_n (lv' := [(2, .int v_14), (3, .int 1), (0, .ref (L 6)), (1, .ref (L (aG g)))]) hx hb dX7_spotOf_33 rfl hl_12 (by decide) rfl (fun ls_15 hl_15 => ?_)
  clear hl_12
  refine lv_iinc (v := 0) (lv' := [(3, .int 0), (2, .int v_14), (0, .ref (L 6)), (1, .ref (L (aG g)))]) hx hb dX7_spotOf_34 hl_15 (k := 1) rfl (by decide) (by decide) rfl (fun ls_16 hl_16 => ?_)
  clear hl_15
  refine lv_goto (tgt := 15) hx hb dX7_spotOf_37 (by decide) ?_
  refine lv_iload_n hx hb dX7_spotOf_15 rfl (lv_at hl_16 0 rfl) ?_
  refine lv_if_lt (tgt := 40) hx hb dX7_spotOf_16 (by decide) (fun c_17 => absurd c_17 (by decide)) (fun _ => ?_)
  refine lv_iload_n hx hb dX7_spotOf_19 rfl (lv_at hl_16 1 rfl) ?_
  refine lv_bipush (v := 6) hx hb dX7_spotOf_20 (by decide) ?_
  refine lv_imul hx hb dX7_spotOf_22 ?_
  refine lv_aload_n hx hb dX7_spotOf_23 rfl (lv_at hl_16 3 rfl) ?_
  refine k_getN (k := 2) (v := .ref (L (aA g))) hx hb hts in_X7_spotOf_X0 hown hK hN hO_2 (aG_lt hg) (cn_G g) rfl (by decide) nx_field_X7_66 rfl dX7_spotOf_24 ?_
  refine lv_iload_n hx hb dX7_spotOf_27 rfl (lv_at hl_16 0 rfl) ?_
  refine k_aald hx hb hK hO_2 (aA_lt hg) (ct_A g) rfl (show vp_in 0 4 from by unfold vp_in; decide) dX7_spotOf_28 ?_
  refine lv_topr (b := L (aP g 0)) rfl ?_
  refine k_getN (k := 0) (v := .int (X_1 g 11)) hx hb hts in_X7_spotOf_X3 hown hK hN hO_2 (aP_lt hg (by decide)) (cn_P g 0 (by decide)) rfl (by decide) nx_field_X7_72 rfl dX7_spotOf_29 ?_
  refine lv_iadd hx hb dX7_spotOf_32 ?_
  replace hf := zl_some hf
  obtain ⟨v_18, hv_18, hf⟩ := hf
  refine lv_tope hv_18 ?_
  refine lv_istore_n (lv' := [(2, .int v_18), (3, .int 0), (0, .ref (L 6)), (1, .ref (L (aG g)))]) hx hb dX7_spotOf_33 rfl hl_16 (by decide) rfl (fun ls_19 hl_19 => ?_)
  clear hl_16
  refine lv_iinc (v := (-1)) (lv' := [(3, .int (-1)), (2, .int v_18), (0, .ref (L 6)), (1, .ref (L (aG g)))]) hx hb dX7_spotOf_34 hl_19 (k := 1) rfl (by decide) (by decide) rfl (fun ls_20 hl_20 => ?_)
  clear hl_19
  refine lv_goto (tgt := 15) hx hb dX7_spotOf_37 (by decide) ?_
  refine lv_iload_n hx hb dX7_spotOf_15 rfl (lv_at hl_20 0 rfl) ?_
  refine lv_if_lt (tgt := 40) hx hb dX7_spotOf_16 (by decide) (fun _ => ?_) (fun c_21 => absurd (by decide) c_21)
  refine lv_aload_n hx hb dX7_spotOf_40 rfl (lv_at hl_20 3 rfl) ?_
  refine k_getN (k := 8) (v := .int (X_1 g 4)) hx hb hts in_X7_spotOf_X0 hown hK hN hO_2 (aG_lt hg) (cn_G g) rfl (by decide) nx_field_X7_77 rfl dX7_spotOf_41 ?_
  refine lv_if_eq (tgt := 51) hx hb dX7_spotOf_44 (by decide) (fun c_22 => ?_) (fun c_22 => ?_)
  · rw [if_pos c_22] at hf
    refine lv_iconst (v := 1) hx hb dX7_spotOf_51 (by decide) ?_
    refine lv_istore_n (lv' := [(3, .int 1), (2, .int v_18), (0, .ref (L 6)), (1, .ref (L (aG g)))]) hx hb dX7_spotOf_52 rfl hl_20 (by decide) rfl (fun ls_23 hl_23 => ?_)
    clear hl_20
    refine lv_aload_n hx hb dX7_spotOf_53 rfl (lv_at hl_23 3 rfl) ?_
    refine lv_aload_n hx hb dX7_spotOf_54 rfl (lv_at hl_23 3 rfl) ?_
    refine k_getN (k := 6) (v := .int (X_1 g 3)) hx hb hts in_X7_spotOf_X0 hown hK hN hO_2 (aG_lt hg) (cn_G g) rfl (by decide) nx_field_X7_81 rfl dX7_spotOf_55 ?_
    replace hf := zi_some hf
    obtain ⟨r_25, X_24, hc_24, hf⟩ := hf
    refine k_ar (va_runVN (As := [.int (X_1 g 3)]) (rest := []) ⟨hx, hb, hml, hown, hts⟩ (mX0_player l D L ac hL _ g hg (X_1 g 3) _ _ hc_24) ⟨va_cnB 1 hts gX7_spotOf_X0_player_n84 rfl rfl rfl (hN _ nx_method_X7_84) (hts _ lk_X7_spotOf_iX0) (by decide +kernel) ⟨Nat.le_of_ble_eq_true rfl, Nat.le_of_ble_eq_true rfl⟩, hts _ lk_X7_spotOf_mX0_player, hts _ lk_X7_spotOf_eX0_player⟩ (k_pv (j := (aG g)) hK hN hO_2 (aG_lt hg) (cn_G g) rfl _) rfl rfl hl_23.1 rfl (lv_room (Nat.le_of_ble_eq_true rfl)) dX7_spotOf_58 ⟨Nat.le_of_ble_eq_true rfl, Nat.le_of_ble_eq_true rfl⟩) hA hO_2 (fun H_26 locs_26 hO_26 => ?_)
    clear hO_2
    have hw_r_25 : r_25 < 2 := ltX0_player hc_24
    refine k_getN (k := 1) (v := .int (X_24 g (7 + r_25))) hx hb hts in_X7_spotOf_X4 hown hK hN hO_26 (aY_lt hg hw_r_25) (cn_Y g r_25 hw_r_25) rfl (by decide) nx_field_X7_88 rfl dX7_spotOf_61 ?_
    replace hf := zl_some hf
    obtain ⟨v_27, hv_27, hf⟩ := hf
    refine lv_tope hv_27 ?_
    refine lv_istore (lv' := [(4, .int v_27), (3, .int 1), (2, .int v_18), (0, .ref (L 6)), (1, .ref (L (aG g)))]) hx hb dX7_spotOf_64 hl_23 (by decide) rfl (fun ls_28 hl_28 => ?_)
    clear hl_23
    refine lv_aload_n hx hb dX7_spotOf_66 rfl (lv_at hl_28 4 rfl) ?_
    refine lv_iconst (v := 1) hx hb dX7_spotOf_67 (by decide) ?_
    refine lv_aload_n hx hb dX7_spotOf_68 rfl (lv_at hl_28 4 rfl) ?_
    refine k_getN (k := 6) (v := .int (X_24 g 3)) hx hb hts in_X7_spotOf_X0 hown hK hN hO_26 (aG_lt hg) (cn_G g) rfl (by decide) nx_field_X7_81 rfl dX7_spotOf_69 ?_
    refine lv_isub hx hb dX7_spotOf_72 ?_
    replace hf := zi_some hf
    obtain ⟨r_30, X_29, hc_29, hf⟩ := hf
    refine k_ar (va_runVN (As := [.int (1 - (X_24 g 3))]) (rest := []) ⟨hx, hb, hml, hown, hts⟩ (mX0_player l D L ac hL _ g hg (1 - (X_24 g 3)) _ _ hc_29) ⟨va_cnB 1 hts gX7_spotOf_X0_player_n84 rfl rfl rfl (hN _ nx_method_X7_84) (hts _ lk_X7_spotOf_iX0) (by decide +kernel) ⟨Nat.le_of_ble_eq_true rfl, Nat.le_of_ble_eq_true rfl⟩, hts _ lk_X7_spotOf_mX0_player, hts _ lk_X7_spotOf_eX0_player⟩ (k_pv (j := (aG g)) hK hN hO_26 (aG_lt hg) (cn_G g) rfl _) rfl rfl hl_28.1 rfl (lv_room (Nat.le_of_ble_eq_true rfl)) dX7_spotOf_73 ⟨Nat.le_of_ble_eq_true rfl, Nat.le_of_ble_eq_true rfl⟩) hA hO_26 (fun H_31 locs_31 hO_31 => ?_)
    clear hO_26
    have hw_r_30 : r_30 < 2 := ltX0_player hc_29
    refine k_getN (k := 1) (v := .int (X_29 g (7 + r_30))) hx hb hts in_X7_spotOf_X4 hown hK hN hO_31 (aY_lt hg hw_r_30) (cn_Y g r_30 hw_r_30) rfl (by decide) nx_field_X7_88 rfl dX7_spotOf_76 ?_
    replace hf := zl_some hf
    obtain ⟨v_32, hv_32, hf⟩ := hf
    refine lv_tope hv_32 ?_
    refine lv_istore (lv' := [(5, .int v_32), (4, .int v_27), (3, .int 1), (2, .int v_18), (0, .ref (L 6)), (1, .ref (L (aG g)))]) hx hb dX7_spotOf_79 hl_28 (by decide) rfl (fun ls_33 hl_33 => ?_)
    clear hl_28
    refine lv_iload_n hx hb dX7_spotOf_81 rfl (lv_at hl_33 3 rfl) ?_
    refine lv_bipush (v := 18) hx hb dX7_spotOf_82 (by decide) ?_
    refine lv_imul hx hb dX7_spotOf_84 ?_
    refine lv_iload_n hx hb dX7_spotOf_85 rfl (lv_at hl_33 2 rfl) ?_
    refine lv_bipush (v := 9) hx hb dX7_spotOf_86 (by decide) ?_
    refine lv_imul hx hb dX7_spotOf_88 ?_
    refine lv_tope (z := 9) (by decide) ?_
    refine lv_iadd hx hb dX7_spotOf_89 ?_
    refine lv_iload hx hb dX7_spotOf_90 (lv_at hl_33 1 rfl) ?_
    refine lv_iconst (v := 3) hx hb dX7_spotOf_92 (by decide) ?_
    refine lv_imul hx hb dX7_spotOf_93 ?_
    refine lv_iadd hx hb dX7_spotOf_94 ?_
    refine lv_iload hx hb dX7_spotOf_95 (lv_at hl_33 0 rfl) ?_
    refine lv_iadd hx hb dX7_spotOf_97 ?_
    obtain ⟨rfl, rfl⟩ := Prod.mk.inj (Option.some.inj hf)
    exact e_i hx hb hr hK hN hO_31 hlocks dX7_spotOf_98
  · rw [if_neg c_22] at hf
    refine lv_iconst (v := 0) hx hb dX7_spotOf_47 (by decide) ?_
    refine lv_goto (tgt := 52) hx hb dX7_spotOf_48 (by decide) ?_
    refine lv_istore_n (lv' := [(3, .int 0), (2, .int v_18), (0, .ref (L 6)), (1, .ref (L (aG g)))]) hx hb dX7_spotOf_52 rfl hl_20 (by decide) rfl (fun ls_34 hl_34 => ?_)
    clear hl_20
    refine lv_aload_n hx hb dX7_spotOf_53 rfl (lv_at hl_34 3 rfl) ?_
    refine lv_aload_n hx hb dX7_spotOf_54 rfl (lv_at hl_34 3 rfl) ?_
    refine k_getN (k := 6) (v := .int (X_1 g 3)) hx hb hts in_X7_spotOf_X0 hown hK hN hO_2 (aG_lt hg) (cn_G g) rfl (by decide) nx_field_X7_81 rfl dX7_spotOf_55 ?_
    replace hf := zi_some hf
    obtain ⟨r_36, X_35, hc_35, hf⟩ := hf
    refine k_ar (va_runVN (As := [.int (X_1 g 3)]) (rest := []) ⟨hx, hb, hml, hown, hts⟩ (mX0_player l D L ac hL _ g hg (X_1 g 3) _ _ hc_35) ⟨va_cnB 1 hts gX7_spotOf_X0_player_n84 rfl rfl rfl (hN _ nx_method_X7_84) (hts _ lk_X7_spotOf_iX0) (by decide +kernel) ⟨Nat.le_of_ble_eq_true rfl, Nat.le_of_ble_eq_true rfl⟩, hts _ lk_X7_spotOf_mX0_player, hts _ lk_X7_spotOf_eX0_player⟩ (k_pv (j := (aG g)) hK hN hO_2 (aG_lt hg) (cn_G g) rfl _) rfl rfl hl_34.1 rfl (lv_room (Nat.le_of_ble_eq_true rfl)) dX7_spotOf_58 ⟨Nat.le_of_ble_eq_true rfl, Nat.le_of_ble_eq_true rfl⟩) hA hO_2 (fun H_37 locs_37 hO_37 => ?_)
    clear hO_2
    have hw_r_36 : r_36 < 2 := ltX0_player hc_35
    refine k_getN (k := 1) (v := .int (X_35 g (7 + r_36))) hx hb hts in_X7_spotOf_X4 hown hK hN hO_37 (aY_lt hg hw_r_36) (cn_Y g r_36 hw_r_36) rfl (by decide) nx_field_X7_88 rfl dX7_spotOf_61 ?_
    replace hf := zl_some hf
    obtain ⟨v_38, hv_38, hf⟩ := hf
    refine lv_tope hv_38 ?_
    refine lv_istore (lv' := [(4, .int v_38), (3, .int 0), (2, .int v_18), (0, .ref (L 6)), (1, .ref (L (aG g)))]) hx hb dX7_spotOf_64 hl_34 (by decide) rfl (fun ls_39 hl_39 => ?_)
    clear hl_34
    refine lv_aload_n hx hb dX7_spotOf_66 rfl (lv_at hl_39 4 rfl) ?_
    refine lv_iconst (v := 1) hx hb dX7_spotOf_67 (by decide) ?_
    refine lv_aload_n hx hb dX7_spotOf_68 rfl (lv_at hl_39 4 rfl) ?_
    refine k_getN (k := 6) (v := .int (X_35 g 3)) hx hb hts in_X7_spotOf_X0 hown hK hN hO_37 (aG_lt hg) (cn_G g) rfl (by decide) nx_field_X7_81 rfl dX7_spotOf_69 ?_
    refine lv_isub hx hb dX7_spotOf_72 ?_
    replace hf := zi_some hf
    obtain ⟨r_41, X_40, hc_40, hf⟩ := hf
    refine k_ar (va_runVN (As := [.int (1 - (X_35 g 3))]) (rest := []) ⟨hx, hb, hml, hown, hts⟩ (mX0_player l D L ac hL _ g hg (1 - (X_35 g 3)) _ _ hc_40) ⟨va_cnB 1 hts gX7_spotOf_X0_player_n84 rfl rfl rfl (hN _ nx_method_X7_84) (hts _ lk_X7_spotOf_iX0) (by decide +kernel) ⟨Nat.le_of_ble_eq_true rfl, Nat.le_of_ble_eq_true rfl⟩, hts _ lk_X7_spotOf_mX0_player, hts _ lk_X7_spotOf_eX0_player⟩ (k_pv (j := (aG g)) hK hN hO_37 (aG_lt hg) (cn_G g) rfl _) rfl rfl hl_39.1 rfl (lv_room (Nat.le_of_ble_eq_true rfl)) dX7_spotOf_73 ⟨Nat.le_of_ble_eq_true rfl, Nat.le_of_ble_eq_true rfl⟩) hA hO_37 (fun H_42 locs_42 hO_42 => ?_)
    clear hO_37
    have hw_r_41 : r_41 < 2 := ltX0_player hc_40
    refine k_getN (k := 1) (v := .int (X_40 g (7 + r_41))) hx hb hts in_X7_spotOf_X4 hown hK hN hO_42 (aY_lt hg hw_r_41) (cn_Y g r_41 hw_r_41) rfl (by decide) nx_field_X7_88 rfl dX7_spotOf_76 ?_
    replace hf := zl_some hf
    obtain ⟨v_43, hv_43, hf⟩ := hf
    refine lv_tope hv_43 ?_
    refine lv_istore (lv' := [(5, .int v_43), (4, .int v_38), (3, .int 0), (2, .int v_18), (0, .ref (L 6)), (1, .ref (L (aG g)))]) hx hb dX7_spotOf_79 hl_39 (by decide) rfl (fun ls_44 hl_44 => ?_)
    clear hl_39
    refine lv_iload_n hx hb dX7_spotOf_81 rfl (lv_at hl_44 3 rfl) ?_
    refine lv_bipush (v := 18) hx hb dX7_spotOf_82 (by decide) ?_
    refine lv_imul hx hb dX7_spotOf_84 ?_
    refine lv_iload_n hx hb dX7_spotOf_85 rfl (lv_at hl_44 2 rfl) ?_
    refine lv_bipush (v := 9) hx hb dX7_spotOf_86 (by decide) ?_
    refine lv_imul hx hb dX7_spotOf_88 ?_
    refine lv_tope (z := 0) (by decide) ?_
    refine lv_iadd hx hb dX7_spotOf_89 ?_
    refine lv_iload hx hb dX7_spotOf_90 (lv_at hl_44 1 rfl) ?_
    refine lv_iconst (v := 3) hx hb dX7_spotOf_92 (by decide) ?_
    refine lv_imul hx hb dX7_spotOf_93 ?_
    refine lv_iadd hx hb dX7_spotOf_94 ?_
    refine lv_iload hx hb dX7_spotOf_95 (lv_at hl_44 0 rfl) ?_
    refine lv_iadd hx hb dX7_spotOf_97 ?_
    obtain ⟨rfl, rfl⟩ := Prod.mk.inj (Option.some.inj hf)
    exact e_i hx hb hr hK hN hO_42 hlocks dX7_spotOf_98
