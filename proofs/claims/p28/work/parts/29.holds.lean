def fL_holds_95  (k53 : Int32 → Int32 → Int32 → Int32 → Int32 → Int32 → XM → Option (Int32 × XM)) : Nat → Int32 → Int32 → Int32 → Int32 → Int32 → Int32 → XM → Option (Int32 × XM)
  | 0, _, _, _, _, _, _, _ => none
  | n + 1, x1, x2, x3, x4, x5, x6, X => zi (fX8_ofPile x6 4 X) (fun r_2 X_1 => zl (x5 ^^^ r_2) (fun v_4 => zi (fX8_ofPile x6 0 X_1) (fun r_7 X_6 => if r_7 < 0 then some (0, X_6) else zi (fX8_ofPile x6 0 X_6) (fun r_11 X_10 => zi (fX8_ofPile x6 3 X_10) (fun r_14 X_13 => if r_14 < r_11 then some (0, X_13) else zi (fX8_ofPile x6 4 X_13) (fun r_18 X_17 => zi (fX8_ofPile x6 0 X_17) (fun r_21 X_20 => zi (fX8_grundy r_21 X_20) (fun r_24 X_23 => if r_18 = r_24 then k53 x1 x2 x3 x4 v_4 (x6 + 1) X_23 else some (0, X_23)))))))))
set_option maxHeartbeats 4000000 in
set_option maxRecDepth 100000 in
theorem wL_holds_95 {p : Program} {l : Launch} {e : Env} {s : State} {m : MethodId} {args : Array Value} {below : List Frame} {meth : Method} {c : Code} {D : va_G} {L : Nat → Nat} {ac : Nat → ClassId} {r0 : Int32} {X0 : XM} (hL : LL L) (F : Fx p s m args meth c cL_holds 15 (some .boolean) wsL_holds yL_holds.cls D ac) (k53 : Int32 → Int32 → Int32 → Int32 → Int32 → Int32 → XM → Option (Int32 × XM)) (hk53 : ∀ (x1 : Int32) (x2 : Int32) (x3 : Int32) (x4 : Int32) (x5 : Int32) (x6 : Int32) (X : XM) (H : Heap) (locs : List Loc) (ls : Array Slot), Oh D L ac X (fr L) s.heap H locs → lv_has ls 15 [(0, .ref (L 0)), (1, .int x1), (2, .int x2), (3, .int x3), (4, .int x4), (5, .int x5), (6, .int x6)] → k53 x1 x2 x3 x4 x5 x6 X = some (r0, X0) → W p l e (headSpec wsL_holds ({ frames := 67, cells := 0, slots := 0, locals := 2026 })).room s m args below meth c H locs 0 0 (MQ below (va_Qi (fun (r : Int32) (Y : XM) => r = r0 ∧ Y = X0) (fun (Y : XM) t => St D L ac Y t) (fr L)) args s 0 0 (fr L)) (F0 m 53 ls [])) : ∀ (n : Nat) (x1 : Int32) (x2 : Int32) (x3 : Int32) (x4 : Int32) (x5 : Int32) (x6 : Int32) (X : XM) (H : Heap) (locs : List Loc) (ls : Array Slot), Oh D L ac X (fr L) s.heap H locs → lv_has ls 15 [(0, .ref (L 0)), (1, .int x1), (2, .int x2), (3, .int x3), (4, .int x4), (5, .int x5), (6, .int x6)] → fL_holds_95 k53 n x1 x2 x3 x4 x5 x6 X = some (r0, X0) → W p l e (headSpec wsL_holds ({ frames := 67, cells := 0, slots := 0, locals := 2026 })).room s m args below meth c H locs 0 0 (MQ below (va_Qi (fun (r : Int32) (Y : XM) => r = r0 ∧ Y = X0) (fun (Y : XM) t => St D L ac Y t) (fr L)) args s 0 0 (fr L)) (F0 m 95 ls []) := by
  obtain ⟨hx, hb, hr, hts, hown, hlocks, hml, hK, hN⟩ := id F
  have hA : ∀ q, fr L q → fr L q := fun q h => h
  intro n
  induction n with
  | zero => intro x1 x2 x3 x4 x5 x6 X H locs ls hO hl hf; simp [fL_holds_95] at hf
  | succ n ih =>
    intro x1 x2 x3 x4 x5 x6 X H locs ls hO hl hf
    rw [fL_holds_95] at hf
    refine lv_iload hx hb dL_holds_95 (lv_at hl 5 rfl) ?_
    refine lv_aload_n hx hb dL_holds_97 rfl (lv_at hl 0 rfl) ?_
    refine lv_iload hx hb dL_holds_98 (lv_at hl 6 rfl) ?_
    refine lv_iconst (v := 4) hx hb dL_holds_100 (by decide) ?_
    replace hf := zi_some hf
    obtain ⟨r_2, X_1, hc_1, hf⟩ := hf
    refine k_ai (va_runV (As := [.int x6, .int 4]) (rest := [.int x5]) ⟨hx, hb, hml, hown, hts⟩ (mX8_ofPile l D L ac hL _ x6 4 _ _ hc_1) (cwV 2 hts gL_holds_X8_ofPile rfl rfl rfl (by decide +kernel) ⟨Nat.le_of_ble_eq_true rfl, Nat.le_of_ble_eq_true rfl⟩) (k_pv (j := 0) hK hN hO (by decide) rfl rfl _) rfl rfl hl.1 rfl (lv_room (Nat.le_of_ble_eq_true rfl)) dL_holds_101 ⟨Nat.le_of_ble_eq_true rfl, Nat.le_of_ble_eq_true rfl⟩) hA hO (fun H_3 locs_3 hO_3 => ?_)
    clear hO
    refine lv_ixor hx hb dL_holds_104 ?_
    replace hf := zl_some hf
    obtain ⟨v_4, hv_4, hf⟩ := hf
    refine lv_tope hv_4 ?_
    refine lv_istore (lv' := [(5, .int v_4), (0, .ref (L 0)), (1, .int x1), (2, .int x2), (3, .int x3), (4, .int x4), (6, .int x6)]) hx hb dL_holds_105 hl (by decide) rfl (fun ls_5 hl_5 => ?_)
    clear hl
    refine lv_aload_n hx hb dL_holds_107 rfl (lv_at hl_5 1 rfl) ?_
    refine lv_iload hx hb dL_holds_108 (lv_at hl_5 6 rfl) ?_
    refine lv_iconst (v := 0) hx hb dL_holds_110 (by decide) ?_
    replace hf := zi_some hf
    obtain ⟨r_7, X_6, hc_6, hf⟩ := hf
    refine k_ai (va_runV (As := [.int x6, .int 0]) (rest := []) ⟨hx, hb, hml, hown, hts⟩ (mX8_ofPile l D L ac hL _ x6 0 _ _ hc_6) (cwV 2 hts gL_holds_X8_ofPile rfl rfl rfl (by decide +kernel) ⟨Nat.le_of_ble_eq_true rfl, Nat.le_of_ble_eq_true rfl⟩) (k_pv (j := 0) hK hN hO_3 (by decide) rfl rfl _) rfl rfl hl_5.1 rfl (lv_room (Nat.le_of_ble_eq_true rfl)) dL_holds_111 ⟨Nat.le_of_ble_eq_true rfl, Nat.le_of_ble_eq_true rfl⟩) hA hO_3 (fun H_8 locs_8 hO_8 => ?_)
    clear hO_3
    refine lv_if_lt (tgt := 155) hx hb dL_holds_114 (by decide) (fun c_9 => ?_) (fun c_9 => ?_)
    · rw [if_pos c_9] at hf
      refine lv_iconst (v := 0) hx hb dL_holds_155 (by decide) ?_
      obtain ⟨rfl, rfl⟩ := Prod.mk.inj (Option.some.inj hf)
      exact e_n hx hb hr (bo_n (by decide)) hK hN hO_8 hlocks dL_holds_156
    · rw [if_neg c_9] at hf
      refine lv_aload_n hx hb dL_holds_117 rfl (lv_at hl_5 1 rfl) ?_
      refine lv_iload hx hb dL_holds_118 (lv_at hl_5 6 rfl) ?_
      refine lv_iconst (v := 0) hx hb dL_holds_120 (by decide) ?_
      replace hf := zi_some hf
      obtain ⟨r_11, X_10, hc_10, hf⟩ := hf
      refine k_ai (va_runV (As := [.int x6, .int 0]) (rest := []) ⟨hx, hb, hml, hown, hts⟩ (mX8_ofPile l D L ac hL _ x6 0 _ _ hc_10) (cwV 2 hts gL_holds_X8_ofPile rfl rfl rfl (by decide +kernel) ⟨Nat.le_of_ble_eq_true rfl, Nat.le_of_ble_eq_true rfl⟩) (k_pv (j := 0) hK hN hO_8 (by decide) rfl rfl _) rfl rfl hl_5.1 rfl (lv_room (Nat.le_of_ble_eq_true rfl)) dL_holds_121 ⟨Nat.le_of_ble_eq_true rfl, Nat.le_of_ble_eq_true rfl⟩) hA hO_8 (fun H_12 locs_12 hO_12 => ?_)
      clear hO_8
      refine lv_aload_n hx hb dL_holds_124 rfl (lv_at hl_5 1 rfl) ?_
      refine lv_iload hx hb dL_holds_125 (lv_at hl_5 6 rfl) ?_
      refine lv_iconst (v := 3) hx hb dL_holds_127 (by decide) ?_
      replace hf := zi_some hf
      obtain ⟨r_14, X_13, hc_13, hf⟩ := hf
      refine k_ai (va_runV (As := [.int x6, .int 3]) (rest := [.int r_11]) ⟨hx, hb, hml, hown, hts⟩ (mX8_ofPile l D L ac hL _ x6 3 _ _ hc_13) (cwV 2 hts gL_holds_X8_ofPile rfl rfl rfl (by decide +kernel) ⟨Nat.le_of_ble_eq_true rfl, Nat.le_of_ble_eq_true rfl⟩) (k_pv (j := 0) hK hN hO_12 (by decide) rfl rfl _) rfl rfl hl_5.1 rfl (lv_room (Nat.le_of_ble_eq_true rfl)) dL_holds_128 ⟨Nat.le_of_ble_eq_true rfl, Nat.le_of_ble_eq_true rfl⟩) hA hO_12 (fun H_15 locs_15 hO_15 => ?_)
      clear hO_12
      refine lv_icmp_gt (tgt := 155) hx hb dL_holds_131 (by decide) (fun c_16 => ?_) (fun c_16 => ?_)
      · rw [if_pos c_16] at hf
        refine lv_iconst (v := 0) hx hb dL_holds_155 (by decide) ?_
        obtain ⟨rfl, rfl⟩ := Prod.mk.inj (Option.some.inj hf)
        exact e_n hx hb hr (bo_n (by decide)) hK hN hO_15 hlocks dL_holds_156
      · rw [if_neg c_16] at hf
        refine lv_aload_n hx hb dL_holds_134 rfl (lv_at hl_5 1 rfl) ?_
        refine lv_iload hx hb dL_holds_135 (lv_at hl_5 6 rfl) ?_
        refine lv_iconst (v := 4) hx hb dL_holds_137 (by decide) ?_
        replace hf := zi_some hf
        obtain ⟨r_18, X_17, hc_17, hf⟩ := hf
        refine k_ai (va_runV (As := [.int x6, .int 4]) (rest := []) ⟨hx, hb, hml, hown, hts⟩ (mX8_ofPile l D L ac hL _ x6 4 _ _ hc_17) (cwV 2 hts gL_holds_X8_ofPile rfl rfl rfl (by decide +kernel) ⟨Nat.le_of_ble_eq_true rfl, Nat.le_of_ble_eq_true rfl⟩) (k_pv (j := 0) hK hN hO_15 (by decide) rfl rfl _) rfl rfl hl_5.1 rfl (lv_room (Nat.le_of_ble_eq_true rfl)) dL_holds_138 ⟨Nat.le_of_ble_eq_true rfl, Nat.le_of_ble_eq_true rfl⟩) hA hO_15 (fun H_19 locs_19 hO_19 => ?_)
        clear hO_15
        refine lv_aload_n hx hb dL_holds_141 rfl (lv_at hl_5 1 rfl) ?_
        refine lv_aload_n hx hb dL_holds_142 rfl (lv_at hl_5 1 rfl) ?_
        refine lv_iload hx hb dL_holds_143 (lv_at hl_5 6 rfl) ?_
        refine lv_iconst (v := 0) hx hb dL_holds_145 (by decide) ?_
        replace hf := zi_some hf
        obtain ⟨r_21, X_20, hc_20, hf⟩ := hf
        refine k_ai (va_runV (As := [.int x6, .int 0]) (rest := [.ref (L 0), .int r_18]) ⟨hx, hb, hml, hown, hts⟩ (mX8_ofPile l D L ac hL _ x6 0 _ _ hc_20) (cwV 2 hts gL_holds_X8_ofPile rfl rfl rfl (by decide +kernel) ⟨Nat.le_of_ble_eq_true rfl, Nat.le_of_ble_eq_true rfl⟩) (k_pv (j := 0) hK hN hO_19 (by decide) rfl rfl _) rfl rfl hl_5.1 rfl (lv_room (Nat.le_of_ble_eq_true rfl)) dL_holds_146 ⟨Nat.le_of_ble_eq_true rfl, Nat.le_of_ble_eq_true rfl⟩) hA hO_19 (fun H_22 locs_22 hO_22 => ?_)
        clear hO_19
        replace hf := zi_some hf
        obtain ⟨r_24, X_23, hc_23, hf⟩ := hf
        refine k_ai (va_runV (As := [.int r_21]) (rest := [.int r_18]) ⟨hx, hb, hml, hown, hts⟩ (mX8_grundy l D L ac hL _ r_21 _ _ hc_23) (cwV 1 hts gL_holds_X8_grundy rfl rfl rfl (by decide +kernel) ⟨Nat.le_of_ble_eq_true rfl, Nat.le_of_ble_eq_true rfl⟩) (k_pv (j := 0) hK hN hO_22 (by decide) rfl rfl _) rfl rfl hl_5.1 rfl (lv_room (Nat.le_of_ble_eq_true rfl)) dL_holds_149 ⟨Nat.le_of_ble_eq_true rfl, Nat.le_of_ble_eq_true rfl⟩) hA hO_22 (fun H_25 locs_25 hO_25 => ?_)
        clear hO_22
        refine lv_icmp_eq (tgt := 157) hx hb dL_holds_152 (by decide) (fun c_26 => ?_) (fun c_26 => ?_)
        · rw [if_pos c_26] at hf
          refine lv_iinc (v := x6 + 1) (lv' := [(6, .int (x6 + 1)), (5, .int v_4), (0, .ref (L 0)), (1, .int x1), (2, .int x2), (3, .int x3), (4, .int x4)]) hx hb dL_holds_157 hl_5 (k := 6) rfl rfl (by decide) rfl (fun ls_27 hl_27 => ?_)
          clear hl_5
          refine lv_goto (tgt := 53) hx hb dL_holds_160 (by decide) ?_
          exact hk53 _ _ _ _ _ _ _  _ _ _ hO_25 (lv_sub hl_27 [2, 3, 4, 5, 6, 1, 0] rfl) hf
        · rw [if_neg c_26] at hf
          refine lv_iconst (v := 0) hx hb dL_holds_155 (by decide) ?_
          obtain ⟨rfl, rfl⟩ := Prod.mk.inj (Option.some.inj hf)
          exact e_n hx hb hr (bo_n (by decide)) hK hN hO_25 hlocks dL_holds_156
def fL_holds_494   : Nat → Int32 → Int32 → Int32 → Int32 → Int32 → Int32 → Int32 → Int32 → Int32 → Int32 → Int32 → Int32 → Int32 → Int32 → XM → Option (Int32 × XM)
  | 0, _, _, _, _, _, _, _, _, _, _, _, _, _, _, _ => none
  | n + 1, x1, x2, x3, x4, x5, x6, x7, x8, x9, x10, x11, x12, x13, x14, X => zi (fX8_undo X) (fun r_29 X_28 => zb x14 (some (x14, X_28)))
set_option maxHeartbeats 4000000 in
set_option maxRecDepth 100000 in
theorem wL_holds_494 {p : Program} {l : Launch} {e : Env} {s : State} {m : MethodId} {args : Array Value} {below : List Frame} {meth : Method} {c : Code} {D : va_G} {L : Nat → Nat} {ac : Nat → ClassId} {r0 : Int32} {X0 : XM} (hL : LL L) (F : Fx p s m args meth c cL_holds 15 (some .boolean) wsL_holds yL_holds.cls D ac) : ∀ (n : Nat) (x1 : Int32) (x2 : Int32) (x3 : Int32) (x4 : Int32) (x5 : Int32) (x6 : Int32) (x7 : Int32) (x8 : Int32) (x9 : Int32) (x10 : Int32) (x11 : Int32) (x12 : Int32) (x13 : Int32) (x14 : Int32) (X : XM) (H : Heap) (locs : List Loc) (ls : Array Slot), Oh D L ac X (fr L) s.heap H locs → lv_has ls 15 [(0, .ref (L 0)), (1, .int x1), (2, .int x2), (3, .int x3), (4, .int x4), (5, .int x5), (6, .int x6), (7, .int x7), (8, .int x8), (9, .int x9), (10, .int x10), (11, .int x11), (12, .int x12), (13, .int x13), (14, .int x14)] → fL_holds_494 n x1 x2 x3 x4 x5 x6 x7 x8 x9 x10 x11 x12 x13 x14 X = some (r0, X0) → W p l e (headSpec wsL_holds ({ frames := 67, cells := 0, slots := 0, locals := 2026 })).room s m args below meth c H locs 0 0 (MQ below (va_Qi (fun (r : Int32) (Y : XM) => r = r0 ∧ Y = X0) (fun (Y : XM) t => St D L ac Y t) (fr L)) args s 0 0 (fr L)) (F0 m 494 ls []) := by
  obtain ⟨hx, hb, hr, hts, hown, hlocks, hml, hK, hN⟩ := id F
  have hA : ∀ q, fr L q → fr L q := fun q h => h
  intro n
  induction n with
  | zero => intro x1 x2 x3 x4 x5 x6 x7 x8 x9 x10 x11 x12 x13 x14 X H locs ls hO hl hf; simp [fL_holds_494] at hf
  | succ n ih =>
    intro x1 x2 x3 x4 x5 x6 x7 x8 x9 x10 x11 x12 x13 x14 X H locs ls hO hl hf
    rw [fL_holds_494] at hf
    refine lv_aload_n hx hb dL_holds_494 rfl (lv_at hl 0 rfl) ?_
    replace hf := zi_some hf
    obtain ⟨r_29, X_28, hc_28, hf⟩ := hf
    refine k_ai (va_runV (As := []) (rest := []) ⟨hx, hb, hml, hown, hts⟩ (mX8_undo l D L ac hL _  _ _ hc_28) (cwV 0 hts gL_holds_X8_undo rfl rfl rfl (by decide +kernel) ⟨Nat.le_of_ble_eq_true rfl, Nat.le_of_ble_eq_true rfl⟩) (k_pv (j := 0) hK hN hO (by decide) rfl rfl _) rfl rfl hl.1 rfl (lv_room (Nat.le_of_ble_eq_true rfl)) dL_holds_495 ⟨Nat.le_of_ble_eq_true rfl, Nat.le_of_ble_eq_true rfl⟩) hA hO (fun H_30 locs_30 hO_30 => ?_)
    clear hO
    refine lv_pop hx hb dL_holds_498 rfl ?_
    refine lv_iload hx hb dL_holds_499 (lv_at hl 14 rfl) ?_
    replace hf := zb_some hf
    obtain ⟨hb_31, hf⟩ := hf
    obtain ⟨rfl, rfl⟩ := Prod.mk.inj (Option.some.inj hf)
    exact e_n hx hb hr (bo_n hb_31) hK hN hO_30 hlocks dL_holds_501
def fL_holds_386   : Nat → Int32 → Int32 → Int32 → Int32 → Int32 → Int32 → Int32 → Int32 → Int32 → XM → Option (Int32 × XM)
  | 0, _, _, _, _, _, _, _, _, _, _ => none
  | n + 1, x1, x2, x3, x4, x5, x6, x7, x8, x9, X => zi (fX8_count 2 X) (fun r_33 X_32 => zi (fX8_ofPlayer r_33 0 X_32) (fun r_37 X_36 => zi (fX8_count 8 X_36) (fun r_41 X_40 => zi (fX8_play 1 X_40) (fun r_45 X_44 => zi (fX8_ofPlayer r_33 0 X_44) (fun r_48 X_47 => zl (r_48 - r_37) (fun v_50 => zi (fX8_count 3 X_47) (fun r_53 X_52 => if r_53 = 1 then zi (fX8_count 4 X_52) (fun r_63 X_62 => if r_63 = r_33 then if x9 = (v_50 + r_41) then fL_holds_494 fuel x1 x2 x3 x4 x5 x6 x7 x8 x9 r_33 r_37 r_41 v_50 1 X_62 else fL_holds_494 fuel x1 x2 x3 x4 x5 x6 x7 x8 x9 r_33 r_37 r_41 v_50 0 X_62 else if x9 = (v_50 + (-r_41)) then fL_holds_494 fuel x1 x2 x3 x4 x5 x6 x7 x8 x9 r_33 r_37 r_41 v_50 1 X_62 else fL_holds_494 fuel x1 x2 x3 x4 x5 x6 x7 x8 x9 r_33 r_37 r_41 v_50 0 X_62) else zi (fX8_value X_52) (fun r_57 X_56 => if (r_57 - 1000) = (v_50 - x9) then fL_holds_494 fuel x1 x2 x3 x4 x5 x6 x7 x8 x9 r_33 r_37 r_41 v_50 1 X_56 else fL_holds_494 fuel x1 x2 x3 x4 x5 x6 x7 x8 x9 r_33 r_37 r_41 v_50 0 X_56))))))))
set_option maxHeartbeats 4000000 in
set_option maxRecDepth 100000 in
theorem wL_holds_386 {p : Program} {l : Launch} {e : Env} {s : State} {m : MethodId} {args : Array Value} {below : List Frame} {meth : Method} {c : Code} {D : va_G} {L : Nat → Nat} {ac : Nat → ClassId} {r0 : Int32} {X0 : XM} (hL : LL L) (F : Fx p s m args meth c cL_holds 15 (some .boolean) wsL_holds yL_holds.cls D ac) : ∀ (n : Nat) (x1 : Int32) (x2 : Int32) (x3 : Int32) (x4 : Int32) (x5 : Int32) (x6 : Int32) (x7 : Int32) (x8 : Int32) (x9 : Int32) (X : XM) (H : Heap) (locs : List Loc) (ls : Array Slot), Oh D L ac X (fr L) s.heap H locs → lv_has ls 15 [(0, .ref (L 0)), (1, .int x1), (2, .int x2), (3, .int x3), (4, .int x4), (5, .int x5), (6, .int x6), (7, .int x7), (8, .int x8), (9, .int x9)] → fL_holds_386 n x1 x2 x3 x4 x5 x6 x7 x8 x9 X = some (r0, X0) → W p l e (headSpec wsL_holds ({ frames := 67, cells := 0, slots := 0, locals := 2026 })).room s m args below meth c H locs 0 0 (MQ below (va_Qi (fun (r : Int32) (Y : XM) => r = r0 ∧ Y = X0) (fun (Y : XM) t => St D L ac Y t) (fr L)) args s 0 0 (fr L)) (F0 m 386 ls []) := by
  obtain ⟨hx, hb, hr, hts, hown, hlocks, hml, hK, hN⟩ := id F
  have hA : ∀ q, fr L q → fr L q := fun q h => h
  intro n
  induction n with
  | zero => intro x1 x2 x3 x4 x5 x6 x7 x8 x9 X H locs ls hO hl hf; simp [fL_holds_386] at hf
  | succ n ih =>
    intro x1 x2 x3 x4 x5 x6 x7 x8 x9 X H locs ls hO hl hf
    rw [fL_holds_386] at hf
    refine lv_aload_n hx hb dL_holds_386 rfl (lv_at hl 0 rfl) ?_
    refine lv_iconst (v := 2) hx hb dL_holds_387 (by decide) ?_
    replace hf := zi_some hf
    obtain ⟨r_33, X_32, hc_32, hf⟩ := hf
    refine k_ai (va_runV (As := [.int 2]) (rest := []) ⟨hx, hb, hml, hown, hts⟩ (mX8_count l D L ac hL _ 2 _ _ hc_32) (cwV 1 hts gL_holds_X8_count rfl rfl rfl (by decide +kernel) ⟨Nat.le_of_ble_eq_true rfl, Nat.le_of_ble_eq_true rfl⟩) (k_pv (j := 0) hK hN hO (by decide) rfl rfl _) rfl rfl hl.1 rfl (lv_room (Nat.le_of_ble_eq_true rfl)) dL_holds_388 ⟨Nat.le_of_ble_eq_true rfl, Nat.le_of_ble_eq_true rfl⟩) hA hO (fun H_34 locs_34 hO_34 => ?_)
    clear hO
    refine lv_istore (lv' := [(10, .int r_33), (0, .ref (L 0)), (1, .int x1), (2, .int x2), (3, .int x3), (4, .int x4), (5, .int x5), (6, .int x6), (7, .int x7), (8, .int x8), (9, .int x9)]) hx hb dL_holds_391 hl (by decide) rfl (fun ls_35 hl_35 => ?_)
    clear hl
    refine lv_aload_n hx hb dL_holds_393 rfl (lv_at hl_35 1 rfl) ?_
    refine lv_iload hx hb dL_holds_394 (lv_at hl_35 0 rfl) ?_
    refine lv_iconst (v := 0) hx hb dL_holds_396 (by decide) ?_
    replace hf := zi_some hf
    obtain ⟨r_37, X_36, hc_36, hf⟩ := hf
    refine k_ai (va_runV (As := [.int r_33, .int 0]) (rest := []) ⟨hx, hb, hml, hown, hts⟩ (mX8_ofPlayer l D L ac hL _ r_33 0 _ _ hc_36) (cwV 2 hts gL_holds_X8_ofPlayer rfl rfl rfl (by decide +kernel) ⟨Nat.le_of_ble_eq_true rfl, Nat.le_of_ble_eq_true rfl⟩) (k_pv (j := 0) hK hN hO_34 (by decide) rfl rfl _) rfl rfl hl_35.1 rfl (lv_room (Nat.le_of_ble_eq_true rfl)) dL_holds_397 ⟨Nat.le_of_ble_eq_true rfl, Nat.le_of_ble_eq_true rfl⟩) hA hO_34 (fun H_38 locs_38 hO_38 => ?_)
    clear hO_34
    refine lv_istore (lv' := [(11, .int r_37), (10, .int r_33), (0, .ref (L 0)), (1, .int x1), (2, .int x2), (3, .int x3), (4, .int x4), (5, .int x5), (6, .int x6), (7, .int x7), (8, .int x8), (9, .int x9)]) hx hb dL_holds_400 hl_35 (by decide) rfl (fun ls_39 hl_39 => ?_)
    clear hl_35
    refine lv_aload_n hx hb dL_holds_402 rfl (lv_at hl_39 2 rfl) ?_
    refine lv_bipush (v := 8) hx hb dL_holds_403 (by decide) ?_
    replace hf := zi_some hf
    obtain ⟨r_41, X_40, hc_40, hf⟩ := hf
    refine k_ai (va_runV (As := [.int 8]) (rest := []) ⟨hx, hb, hml, hown, hts⟩ (mX8_count l D L ac hL _ 8 _ _ hc_40) (cwV 1 hts gL_holds_X8_count rfl rfl rfl (by decide +kernel) ⟨Nat.le_of_ble_eq_true rfl, Nat.le_of_ble_eq_true rfl⟩) (k_pv (j := 0) hK hN hO_38 (by decide) rfl rfl _) rfl rfl hl_39.1 rfl (lv_room (Nat.le_of_ble_eq_true rfl)) dL_holds_405 ⟨Nat.le_of_ble_eq_true rfl, Nat.le_of_ble_eq_true rfl⟩) hA hO_38 (fun H_42 locs_42 hO_42 => ?_)
    clear hO_38
    refine lv_istore (lv' := [(12, .int r_41), (11, .int r_37), (10, .int r_33), (0, .ref (L 0)), (1, .int x1), (2, .int x2), (3, .int x3), (4, .int x4), (5, .int x5), (6, .int x6), (7, .int x7), (8, .int x8), (9, .int x9)]) hx hb dL_holds_408 hl_39 (by decide) rfl (fun ls_43 hl_43 => ?_)
    clear hl_39
    refine lv_aload_n hx hb dL_holds_410 rfl (lv_at hl_43 3 rfl) ?_
    refine lv_iconst (v := 1) hx hb dL_holds_411 (by decide) ?_
    replace hf := zi_some hf
    obtain ⟨r_45, X_44, hc_44, hf⟩ := hf
    refine k_ai (va_runV (As := [.int 1]) (rest := []) ⟨hx, hb, hml, hown, hts⟩ (mX8_play l D L ac hL _ 1 _ _ hc_44) (cwV 1 hts gL_holds_X8_play rfl rfl rfl (by decide +kernel) ⟨Nat.le_of_ble_eq_true rfl, Nat.le_of_ble_eq_true rfl⟩) (k_pv (j := 0) hK hN hO_42 (by decide) rfl rfl _) rfl rfl hl_43.1 rfl (lv_room (Nat.le_of_ble_eq_true rfl)) dL_holds_412 ⟨Nat.le_of_ble_eq_true rfl, Nat.le_of_ble_eq_true rfl⟩) hA hO_42 (fun H_46 locs_46 hO_46 => ?_)
    clear hO_42
    refine lv_pop hx hb dL_holds_415 rfl ?_
    refine lv_aload_n hx hb dL_holds_416 rfl (lv_at hl_43 3 rfl) ?_
    refine lv_iload hx hb dL_holds_417 (lv_at hl_43 2 rfl) ?_
    refine lv_iconst (v := 0) hx hb dL_holds_419 (by decide) ?_
    replace hf := zi_some hf
    obtain ⟨r_48, X_47, hc_47, hf⟩ := hf
    refine k_ai (va_runV (As := [.int r_33, .int 0]) (rest := []) ⟨hx, hb, hml, hown, hts⟩ (mX8_ofPlayer l D L ac hL _ r_33 0 _ _ hc_47) (cwV 2 hts gL_holds_X8_ofPlayer rfl rfl rfl (by decide +kernel) ⟨Nat.le_of_ble_eq_true rfl, Nat.le_of_ble_eq_true rfl⟩) (k_pv (j := 0) hK hN hO_46 (by decide) rfl rfl _) rfl rfl hl_43.1 rfl (lv_room (Nat.le_of_ble_eq_true rfl)) dL_holds_420 ⟨Nat.le_of_ble_eq_true rfl, Nat.le_of_ble_eq_true rfl⟩) hA hO_46 (fun H_49 locs_49 hO_49 => ?_)
    clear hO_46
    refine lv_iload hx hb dL_holds_423 (lv_at hl_43 1 rfl) ?_
    refine lv_isub hx hb dL_holds_425 ?_
    replace hf := zl_some hf
    obtain ⟨v_50, hv_50, hf⟩ := hf
    refine lv_tope hv_50 ?_
    refine lv_istore (lv' := [(13, .int v_50), (12, .int r_41), (11, .int r_37), (10, .int r_33), (0, .ref (L 0)), (1, .int x1), (2, .int x2), (3, .int x3), (4, .int x4), (5, .int x5), (6, .int x6), (7, .int x7), (8, .int x8), (9, .int x9)]) hx hb dL_holds_426 hl_43 (by decide) rfl (fun ls_51 hl_51 => ?_)
    clear hl_43
    refine lv_aload_n hx hb dL_holds_428 rfl (lv_at hl_51 4 rfl) ?_
    refine lv_iconst (v := 3) hx hb dL_holds_429 (by decide) ?_
    replace hf := zi_some hf
    obtain ⟨r_53, X_52, hc_52, hf⟩ := hf
    refine k_ai (va_runV (As := [.int 3]) (rest := []) ⟨hx, hb, hml, hown, hts⟩ (mX8_count l D L ac hL _ 3 _ _ hc_52) (cwV 1 hts gL_holds_X8_count rfl rfl rfl (by decide +kernel) ⟨Nat.le_of_ble_eq_true rfl, Nat.le_of_ble_eq_true rfl⟩) (k_pv (j := 0) hK hN hO_49 (by decide) rfl rfl _) rfl rfl hl_51.1 rfl (lv_room (Nat.le_of_ble_eq_true rfl)) dL_holds_430 ⟨Nat.le_of_ble_eq_true rfl, Nat.le_of_ble_eq_true rfl⟩) hA hO_49 (fun H_54 locs_54 hO_54 => ?_)
    clear hO_49
    refine lv_iconst (v := 1) hx hb dL_holds_433 (by decide) ?_
    refine lv_icmp_ne (tgt := 471) hx hb dL_holds_434 (by decide) (fun c_55 => ?_) (fun c_55 => ?_)
    · rw [if_neg c_55] at hf
      refine lv_aload_n hx hb dL_holds_471 rfl (lv_at hl_51 4 rfl) ?_
      replace hf := zi_some hf
      obtain ⟨r_57, X_56, hc_56, hf⟩ := hf
      refine k_ai (va_runV (As := []) (rest := []) ⟨hx, hb, hml, hown, hts⟩ (mX8_value l D L ac hL _  _ _ hc_56) (cwV 0 hts gL_holds_X8_value rfl rfl rfl (by decide +kernel) ⟨Nat.le_of_ble_eq_true rfl, Nat.le_of_ble_eq_true rfl⟩) (k_pv (j := 0) hK hN hO_54 (by decide) rfl rfl _) rfl rfl hl_51.1 rfl (lv_room (Nat.le_of_ble_eq_true rfl)) dL_holds_472 ⟨Nat.le_of_ble_eq_true rfl, Nat.le_of_ble_eq_true rfl⟩) hA hO_54 (fun H_58 locs_58 hO_58 => ?_)
      clear hO_54
      refine lv_sipush (v := 1000) hx hb dL_holds_475 (by decide) ?_
      refine lv_isub hx hb dL_holds_478 ?_
      refine lv_iload hx hb dL_holds_479 (lv_at hl_51 0 rfl) ?_
      refine lv_iload hx hb dL_holds_481 (lv_at hl_51 13 rfl) ?_
      refine lv_isub hx hb dL_holds_483 ?_
      refine lv_icmp_ne (tgt := 491) hx hb dL_holds_484 (by decide) (fun c_59 => ?_) (fun c_59 => ?_)
      · rw [if_neg c_59] at hf
        refine lv_iconst (v := 0) hx hb dL_holds_491 (by decide) ?_
        refine lv_istore (lv' := [(14, .int 0), (13, .int v_50), (12, .int r_41), (11, .int r_37), (10, .int r_33), (0, .ref (L 0)), (1, .int x1), (2, .int x2), (3, .int x3), (4, .int x4), (5, .int x5), (6, .int x6), (7, .int x7), (8, .int x8), (9, .int x9)]) hx hb dL_holds_492 hl_51 (by decide) rfl (fun ls_60 hl_60 => ?_)
        clear hl_51
        exact wL_holds_494 hL F  fuel _ _ _ _ _ _ _ _ _ _ _ _ _ _ _  _ _ _ hO_58 (lv_sub hl_60 [5, 6, 7, 8, 9, 10, 11, 12, 13, 14, 4, 3, 2, 1, 0] rfl) hf
      · rw [if_pos c_59] at hf
        refine lv_iconst (v := 1) hx hb dL_holds_487 (by decide) ?_
        refine lv_goto (tgt := 492) hx hb dL_holds_488 (by decide) ?_
        refine lv_istore (lv' := [(14, .int 1), (13, .int v_50), (12, .int r_41), (11, .int r_37), (10, .int r_33), (0, .ref (L 0)), (1, .int x1), (2, .int x2), (3, .int x3), (4, .int x4), (5, .int x5), (6, .int x6), (7, .int x7), (8, .int x8), (9, .int x9)]) hx hb dL_holds_492 hl_51 (by decide) rfl (fun ls_61 hl_61 => ?_)
        clear hl_51
        exact wL_holds_494 hL F  fuel _ _ _ _ _ _ _ _ _ _ _ _ _ _ _  _ _ _ hO_58 (lv_sub hl_61 [5, 6, 7, 8, 9, 10, 11, 12, 13, 14, 4, 3, 2, 1, 0] rfl) hf
    · rw [if_pos c_55] at hf
      subst c_55
      refine lv_iload hx hb dL_holds_437 (lv_at hl_51 13 rfl) ?_
      refine lv_iload hx hb dL_holds_439 (lv_at hl_51 0 rfl) ?_
      refine lv_aload_n hx hb dL_holds_441 rfl (lv_at hl_51 4 rfl) ?_
      refine lv_iconst (v := 4) hx hb dL_holds_442 (by decide) ?_
      replace hf := zi_some hf
      obtain ⟨r_63, X_62, hc_62, hf⟩ := hf
      refine k_ai (va_runV (As := [.int 4]) (rest := [.int v_50, .int x9]) ⟨hx, hb, hml, hown, hts⟩ (mX8_count l D L ac hL _ 4 _ _ hc_62) (cwV 1 hts gL_holds_X8_count rfl rfl rfl (by decide +kernel) ⟨Nat.le_of_ble_eq_true rfl, Nat.le_of_ble_eq_true rfl⟩) (k_pv (j := 0) hK hN hO_54 (by decide) rfl rfl _) rfl rfl hl_51.1 rfl (lv_room (Nat.le_of_ble_eq_true rfl)) dL_holds_443 ⟨Nat.le_of_ble_eq_true rfl, Nat.le_of_ble_eq_true rfl⟩) hA hO_54 (fun H_64 locs_64 hO_64 => ?_)
      clear hO_54
      refine lv_iload hx hb dL_holds_446 (lv_at hl_51 3 rfl) ?_
      refine lv_icmp_ne (tgt := 456) hx hb dL_holds_448 (by decide) (fun c_65 => ?_) (fun c_65 => ?_)
      · rw [if_neg c_65] at hf
        refine lv_iload hx hb dL_holds_456 (lv_at hl_51 1 rfl) ?_
        refine lv_ineg hx hb dL_holds_458 ?_
        refine lv_iadd hx hb dL_holds_459 ?_
        refine lv_icmp_ne (tgt := 467) hx hb dL_holds_460 (by decide) (fun c_66 => ?_) (fun c_66 => ?_)
        · rw [if_neg c_66] at hf
          refine lv_iconst (v := 0) hx hb dL_holds_467 (by decide) ?_
          refine lv_goto (tgt := 492) hx hb dL_holds_468 (by decide) ?_
          refine lv_istore (lv' := [(14, .int 0), (13, .int v_50), (12, .int r_41), (11, .int r_37), (10, .int r_33), (0, .ref (L 0)), (1, .int x1), (2, .int x2), (3, .int x3), (4, .int x4), (5, .int x5), (6, .int x6), (7, .int x7), (8, .int x8), (9, .int x9)]) hx hb dL_holds_492 hl_51 (by decide) rfl (fun ls_67 hl_67 => ?_)
          clear hl_51
          exact wL_holds_494 hL F  fuel _ _ _ _ _ _ _ _ _ _ _ _ _ _ _  _ _ _ hO_64 (lv_sub hl_67 [5, 6, 7, 8, 9, 10, 11, 12, 13, 14, 4, 3, 2, 1, 0] rfl) hf
        · rw [if_pos c_66] at hf
          refine lv_iconst (v := 1) hx hb dL_holds_463 (by decide) ?_
          refine lv_goto (tgt := 492) hx hb dL_holds_464 (by decide) ?_
          refine lv_istore (lv' := [(14, .int 1), (13, .int v_50), (12, .int r_41), (11, .int r_37), (10, .int r_33), (0, .ref (L 0)), (1, .int x1), (2, .int x2), (3, .int x3), (4, .int x4), (5, .int x5), (6, .int x6), (7, .int x7), (8, .int x8), (9, .int x9)]) hx hb dL_holds_492 hl_51 (by decide) rfl (fun ls_68 hl_68 => ?_)
          clear hl_51
          exact wL_holds_494 hL F  fuel _ _ _ _ _ _ _ _ _ _ _ _ _ _ _  _ _ _ hO_64 (lv_sub hl_68 [5, 6, 7, 8, 9, 10, 11, 12, 13, 14, 4, 3, 2, 1, 0] rfl) hf
      · rw [if_pos c_65] at hf
        refine lv_iload hx hb dL_holds_451 (lv_at hl_51 1 rfl) ?_
        refine lv_goto (tgt := 459) hx hb dL_holds_453 (by decide) ?_
        refine lv_iadd hx hb dL_holds_459 ?_
        refine lv_icmp_ne (tgt := 467) hx hb dL_holds_460 (by decide) (fun c_69 => ?_) (fun c_69 => ?_)
        · rw [if_neg c_69] at hf
          refine lv_iconst (v := 0) hx hb dL_holds_467 (by decide) ?_
          refine lv_goto (tgt := 492) hx hb dL_holds_468 (by decide) ?_
          refine lv_istore (lv' := [(14, .int 0), (13, .int v_50), (12, .int r_41), (11, .int r_37), (10, .int r_33), (0, .ref (L 0)), (1, .int x1), (2, .int x2), (3, .int x3), (4, .int x4), (5, .int x5), (6, .int x6), (7, .int x7), (8, .int x8), (9, .int x9)]) hx hb dL_holds_492 hl_51 (by decide) rfl (fun ls_70 hl_70 => ?_)
          clear hl_51
          exact wL_holds_494 hL F  fuel _ _ _ _ _ _ _ _ _ _ _ _ _ _ _  _ _ _ hO_64 (lv_sub hl_70 [5, 6, 7, 8, 9, 10, 11, 12, 13, 14, 4, 3, 2, 1, 0] rfl) hf
        · rw [if_pos c_69] at hf
          refine lv_iconst (v := 1) hx hb dL_holds_463 (by decide) ?_
          refine lv_goto (tgt := 492) hx hb dL_holds_464 (by decide) ?_
          refine lv_istore (lv' := [(14, .int 1), (13, .int v_50), (12, .int r_41), (11, .int r_37), (10, .int r_33), (0, .ref (L 0)), (1, .int x1), (2, .int x2), (3, .int x3), (4, .int x4), (5, .int x5), (6, .int x6), (7, .int x7), (8, .int x8), (9, .int x9)]) hx hb dL_holds_492 hl_51 (by decide) rfl (fun ls_71 hl_71 => ?_)
          clear hl_51
          exact wL_holds_494 hL F  fuel _ _ _ _ _ _ _ _ _ _ _ _ _ _ _  _ _ _ hO_64 (lv_sub hl_71 [5, 6, 7, 8, 9, 10, 11, 12, 13, 14, 4, 3, 2, 1, 0] rfl) hf
def fL_holds_353   : Nat → Int32 → Int32 → Int32 → Int32 → Int32 → Int32 → Int32 → Int32 → Int32 → XM → Option (Int32 × XM)
  | 0, _, _, _, _, _, _, _, _, _, _ => none
  | n + 1, x1, x2, x3, x4, x5, x6, x7, x8, x9, X => if x4 = 0 then fL_holds_386 fuel x1 x2 x3 0 x5 x6 x7 x8 x9 X else if x5 = 0 then zi (fX8_won X) (fun r_75 X_74 => if r_75 = 1 then some (0, X_74) else fL_holds_386 fuel x1 x2 x3 x4 0 x6 x7 x8 x9 X_74) else zi (fX8_won X) (fun r_81 X_80 => if r_81 = 1 then fL_holds_386 fuel x1 x2 x3 x4 x5 x6 x7 x8 x9 X_80 else some (0, X_80))
set_option maxHeartbeats 4000000 in
set_option maxRecDepth 100000 in
theorem wL_holds_353 {p : Program} {l : Launch} {e : Env} {s : State} {m : MethodId} {args : Array Value} {below : List Frame} {meth : Method} {c : Code} {D : va_G} {L : Nat → Nat} {ac : Nat → ClassId} {r0 : Int32} {X0 : XM} (hL : LL L) (F : Fx p s m args meth c cL_holds 15 (some .boolean) wsL_holds yL_holds.cls D ac) : ∀ (n : Nat) (x1 : Int32) (x2 : Int32) (x3 : Int32) (x4 : Int32) (x5 : Int32) (x6 : Int32) (x7 : Int32) (x8 : Int32) (x9 : Int32) (X : XM) (H : Heap) (locs : List Loc) (ls : Array Slot), Oh D L ac X (fr L) s.heap H locs → lv_has ls 15 [(0, .ref (L 0)), (1, .int x1), (2, .int x2), (3, .int x3), (4, .int x4), (5, .int x5), (6, .int x6), (7, .int x7), (8, .int x8), (9, .int x9)] → fL_holds_353 n x1 x2 x3 x4 x5 x6 x7 x8 x9 X = some (r0, X0) → W p l e (headSpec wsL_holds ({ frames := 67, cells := 0, slots := 0, locals := 2026 })).room s m args below meth c H locs 0 0 (MQ below (va_Qi (fun (r : Int32) (Y : XM) => r = r0 ∧ Y = X0) (fun (Y : XM) t => St D L ac Y t) (fr L)) args s 0 0 (fr L)) (F0 m 353 ls []) := by
  obtain ⟨hx, hb, hr, hts, hown, hlocks, hml, hK, hN⟩ := id F
  have hA : ∀ q, fr L q → fr L q := fun q h => h
  intro n
  induction n with
  | zero => intro x1 x2 x3 x4 x5 x6 x7 x8 x9 X H locs ls hO hl hf; simp [fL_holds_353] at hf
  | succ n ih =>
    intro x1 x2 x3 x4 x5 x6 x7 x8 x9 X H locs ls hO hl hf
    rw [fL_holds_353] at hf
    refine lv_iload hx hb dL_holds_353 (lv_at hl 4 rfl) ?_
    refine lv_if_eq (tgt := 386) hx hb dL_holds_355 (by decide) (fun c_72 => ?_) (fun c_72 => ?_)
    · rw [if_pos c_72] at hf
      subst c_72
      exact wL_holds_386 hL F  fuel _ _ _ _ _ _ _ _ _ _  _ _ _ hO (lv_sub hl [0, 1, 2, 3, 4, 5, 6, 7, 8, 9] rfl) hf
    · rw [if_neg c_72] at hf
      refine lv_iload hx hb dL_holds_358 (lv_at hl 5 rfl) ?_
      refine lv_if_eq (tgt := 367) hx hb dL_holds_360 (by decide) (fun c_73 => ?_) (fun c_73 => ?_)
      · rw [if_pos c_73] at hf
        subst c_73
        refine lv_iconst (v := 0) hx hb dL_holds_367 (by decide) ?_
        refine lv_aload_n hx hb dL_holds_368 rfl (lv_at hl 0 rfl) ?_
        replace hf := zi_some hf
        obtain ⟨r_75, X_74, hc_74, hf⟩ := hf
        refine k_ai (va_runV (As := []) (rest := [.int 0]) ⟨hx, hb, hml, hown, hts⟩ (mX8_won l D L ac hL _  _ _ hc_74) (cwV 0 hts gL_holds_X8_won rfl rfl rfl (by decide +kernel) ⟨Nat.le_of_ble_eq_true rfl, Nat.le_of_ble_eq_true rfl⟩) (k_pv (j := 0) hK hN hO (by decide) rfl rfl _) rfl rfl hl.1 rfl (lv_room (Nat.le_of_ble_eq_true rfl)) dL_holds_369 ⟨Nat.le_of_ble_eq_true rfl, Nat.le_of_ble_eq_true rfl⟩) hA hO (fun H_76 locs_76 hO_76 => ?_)
        clear hO
        refine lv_iconst (v := 1) hx hb dL_holds_372 (by decide) ?_
        refine lv_icmp_ne (tgt := 380) hx hb dL_holds_373 (by decide) (fun c_77 => ?_) (fun c_77 => ?_)
        · rw [if_neg c_77] at hf
          refine lv_iconst (v := 0) hx hb dL_holds_380 (by decide) ?_
          refine lv_icmp_eq (tgt := 386) hx hb dL_holds_381 (by decide) (fun _ => ?_) (fun c_78 => absurd (by decide) c_78)
          exact wL_holds_386 hL F  fuel _ _ _ _ _ _ _ _ _ _  _ _ _ hO_76 (lv_sub hl [0, 1, 2, 3, 4, 5, 6, 7, 8, 9] rfl) hf
        · rw [if_pos c_77] at hf
          subst c_77
          refine lv_iconst (v := 1) hx hb dL_holds_376 (by decide) ?_
          refine lv_goto (tgt := 381) hx hb dL_holds_377 (by decide) ?_
          refine lv_icmp_eq (tgt := 386) hx hb dL_holds_381 (by decide) (fun c_79 => absurd c_79 (by decide)) (fun _ => ?_)
          refine lv_iconst (v := 0) hx hb dL_holds_384 (by decide) ?_
          obtain ⟨rfl, rfl⟩ := Prod.mk.inj (Option.some.inj hf)
          exact e_n hx hb hr (bo_n (by decide)) hK hN hO_76 hlocks dL_holds_385
      · rw [if_neg c_73] at hf
        refine lv_iconst (v := 1) hx hb dL_holds_363 (by decide) ?_
        refine lv_goto (tgt := 368) hx hb dL_holds_364 (by decide) ?_
        refine lv_aload_n hx hb dL_holds_368 rfl (lv_at hl 0 rfl) ?_
        replace hf := zi_some hf
        obtain ⟨r_81, X_80, hc_80, hf⟩ := hf
        refine k_ai (va_runV (As := []) (rest := [.int 1]) ⟨hx, hb, hml, hown, hts⟩ (mX8_won l D L ac hL _  _ _ hc_80) (cwV 0 hts gL_holds_X8_won rfl rfl rfl (by decide +kernel) ⟨Nat.le_of_ble_eq_true rfl, Nat.le_of_ble_eq_true rfl⟩) (k_pv (j := 0) hK hN hO (by decide) rfl rfl _) rfl rfl hl.1 rfl (lv_room (Nat.le_of_ble_eq_true rfl)) dL_holds_369 ⟨Nat.le_of_ble_eq_true rfl, Nat.le_of_ble_eq_true rfl⟩) hA hO (fun H_82 locs_82 hO_82 => ?_)
        clear hO
        refine lv_iconst (v := 1) hx hb dL_holds_372 (by decide) ?_
        refine lv_icmp_ne (tgt := 380) hx hb dL_holds_373 (by decide) (fun c_83 => ?_) (fun c_83 => ?_)
        · rw [if_neg c_83] at hf
          refine lv_iconst (v := 0) hx hb dL_holds_380 (by decide) ?_
          refine lv_icmp_eq (tgt := 386) hx hb dL_holds_381 (by decide) (fun c_84 => absurd c_84 (by decide)) (fun _ => ?_)
          refine lv_iconst (v := 0) hx hb dL_holds_384 (by decide) ?_
          obtain ⟨rfl, rfl⟩ := Prod.mk.inj (Option.some.inj hf)
          exact e_n hx hb hr (bo_n (by decide)) hK hN hO_82 hlocks dL_holds_385
        · rw [if_pos c_83] at hf
          subst c_83
          refine lv_iconst (v := 1) hx hb dL_holds_376 (by decide) ?_
          refine lv_goto (tgt := 381) hx hb dL_holds_377 (by decide) ?_
          refine lv_icmp_eq (tgt := 386) hx hb dL_holds_381 (by decide) (fun _ => ?_) (fun c_85 => absurd (by decide) c_85)
          exact wL_holds_386 hL F  fuel _ _ _ _ _ _ _ _ _ _  _ _ _ hO_82 (lv_sub hl [0, 1, 2, 3, 4, 5, 6, 7, 8, 9] rfl) hf
def fL_holds_241   : Nat → Int32 → Int32 → Int32 → Int32 → Int32 → Int32 → XM → Option (Int32 × XM)
  | 0, _, _, _, _, _, _, _ => none
  | n + 1, x1, x2, x3, x4, x5, x6, X => if x2 = 0 then zi (fX8_winning X) (fun r_88 X_87 => zi (fX8_best X_87) (fun r_92 X_91 => zi (fX8_value X_91) (fun r_96 X_95 => zl (r_96 - 1000) (fun v_98 => if (r_88 &&& (x1 ^^^ (-1))) = 0 then if ((o_shr x1 r_92) &&& 1) = 0 then some (0, X_95) else zi (fX8_won X_95) (fun r_103 X_102 => if r_103 = 1 then if r_88 = 0 then some (0, X_102) else fL_holds_353 fuel x1 0 x3 x4 x5 x6 r_88 r_92 v_98 X_102 else if r_88 = 0 then fL_holds_353 fuel x1 0 x3 x4 x5 x6 0 r_92 v_98 X_102 else some (0, X_102)) else some (0, X_95))))) else zi (fX8_value X) (fun r_113 X_112 => if r_113 = (-5) then zi (fX8_won X_112) (fun r_117 X_116 => if r_117 = (-5) then zi (fX8_winning X_116) (fun r_121 X_120 => if r_121 = (-5) then zi (fX8_best X_120) (fun r_125 X_124 => if r_125 = (-5) then some (1, X_124) else some (0, X_124)) else some (0, X_120)) else some (0, X_116)) else some (0, X_112))
set_option maxHeartbeats 4000000 in
set_option maxRecDepth 100000 in
theorem wL_holds_241 {p : Program} {l : Launch} {e : Env} {s : State} {m : MethodId} {args : Array Value} {below : List Frame} {meth : Method} {c : Code} {D : va_G} {L : Nat → Nat} {ac : Nat → ClassId} {r0 : Int32} {X0 : XM} (hL : LL L) (F : Fx p s m args meth c cL_holds 15 (some .boolean) wsL_holds yL_holds.cls D ac) : ∀ (n : Nat) (x1 : Int32) (x2 : Int32) (x3 : Int32) (x4 : Int32) (x5 : Int32) (x6 : Int32) (X : XM) (H : Heap) (locs : List Loc) (ls : Array Slot), Oh D L ac X (fr L) s.heap H locs → lv_has ls 15 [(0, .ref (L 0)), (1, .int x1), (2, .int x2), (3, .int x3), (4, .int x4), (5, .int x5), (6, .int x6)] → fL_holds_241 n x1 x2 x3 x4 x5 x6 X = some (r0, X0) → W p l e (headSpec wsL_holds ({ frames := 67, cells := 0, slots := 0, locals := 2026 })).room s m args below meth c H locs 0 0 (MQ below (va_Qi (fun (r : Int32) (Y : XM) => r = r0 ∧ Y = X0) (fun (Y : XM) t => St D L ac Y t) (fr L)) args s 0 0 (fr L)) (F0 m 241 ls []) := by
  obtain ⟨hx, hb, hr, hts, hown, hlocks, hml, hK, hN⟩ := id F
  have hA : ∀ q, fr L q → fr L q := fun q h => h
  intro n
  induction n with
  | zero => intro x1 x2 x3 x4 x5 x6 X H locs ls hO hl hf; simp [fL_holds_241] at hf
  | succ n ih =>
    intro x1 x2 x3 x4 x5 x6 X H locs ls hO hl hf
    rw [fL_holds_241] at hf
    refine lv_iload_n hx hb dL_holds_241 rfl (lv_at hl 2 rfl) ?_
    refine lv_if_eq (tgt := 287) hx hb dL_holds_242 (by decide) (fun c_86 => ?_) (fun c_86 => ?_)
    · rw [if_pos c_86] at hf
      subst c_86
      refine lv_aload_n hx hb dL_holds_287 rfl (lv_at hl 0 rfl) ?_
      replace hf := zi_some hf
      obtain ⟨r_88, X_87, hc_87, hf⟩ := hf
      refine k_ai (va_runV (As := []) (rest := []) ⟨hx, hb, hml, hown, hts⟩ (mX8_winning l D L ac hL _  _ _ hc_87) (cwV 0 hts gL_holds_X8_winning rfl rfl rfl (by decide +kernel) ⟨Nat.le_of_ble_eq_true rfl, Nat.le_of_ble_eq_true rfl⟩) (k_pv (j := 0) hK hN hO (by decide) rfl rfl _) rfl rfl hl.1 rfl (lv_room (Nat.le_of_ble_eq_true rfl)) dL_holds_288 ⟨Nat.le_of_ble_eq_true rfl, Nat.le_of_ble_eq_true rfl⟩) hA hO (fun H_89 locs_89 hO_89 => ?_)
      clear hO
      refine lv_istore (lv' := [(7, .int r_88), (0, .ref (L 0)), (1, .int x1), (2, .int 0), (3, .int x3), (4, .int x4), (5, .int x5), (6, .int x6)]) hx hb dL_holds_291 hl (by decide) rfl (fun ls_90 hl_90 => ?_)
      clear hl
      refine lv_aload_n hx hb dL_holds_293 rfl (lv_at hl_90 1 rfl) ?_
      replace hf := zi_some hf
      obtain ⟨r_92, X_91, hc_91, hf⟩ := hf
      refine k_ai (va_runV (As := []) (rest := []) ⟨hx, hb, hml, hown, hts⟩ (mX8_best l D L ac hL _  _ _ hc_91) (cwV 0 hts gL_holds_X8_best rfl rfl rfl (by decide +kernel) ⟨Nat.le_of_ble_eq_true rfl, Nat.le_of_ble_eq_true rfl⟩) (k_pv (j := 0) hK hN hO_89 (by decide) rfl rfl _) rfl rfl hl_90.1 rfl (lv_room (Nat.le_of_ble_eq_true rfl)) dL_holds_294 ⟨Nat.le_of_ble_eq_true rfl, Nat.le_of_ble_eq_true rfl⟩) hA hO_89 (fun H_93 locs_93 hO_93 => ?_)
      clear hO_89
      refine lv_istore (lv' := [(8, .int r_92), (7, .int r_88), (0, .ref (L 0)), (1, .int x1), (2, .int 0), (3, .int x3), (4, .int x4), (5, .int x5), (6, .int x6)]) hx hb dL_holds_297 hl_90 (by decide) rfl (fun ls_94 hl_94 => ?_)
      clear hl_90
      refine lv_aload_n hx hb dL_holds_299 rfl (lv_at hl_94 2 rfl) ?_
      replace hf := zi_some hf
      obtain ⟨r_96, X_95, hc_95, hf⟩ := hf
      refine k_ai (va_runV (As := []) (rest := []) ⟨hx, hb, hml, hown, hts⟩ (mX8_value l D L ac hL _  _ _ hc_95) (cwV 0 hts gL_holds_X8_value rfl rfl rfl (by decide +kernel) ⟨Nat.le_of_ble_eq_true rfl, Nat.le_of_ble_eq_true rfl⟩) (k_pv (j := 0) hK hN hO_93 (by decide) rfl rfl _) rfl rfl hl_94.1 rfl (lv_room (Nat.le_of_ble_eq_true rfl)) dL_holds_300 ⟨Nat.le_of_ble_eq_true rfl, Nat.le_of_ble_eq_true rfl⟩) hA hO_93 (fun H_97 locs_97 hO_97 => ?_)
      clear hO_93
      refine lv_sipush (v := 1000) hx hb dL_holds_303 (by decide) ?_
      refine lv_isub hx hb dL_holds_306 ?_
      replace hf := zl_some hf
      obtain ⟨v_98, hv_98, hf⟩ := hf
      refine lv_tope hv_98 ?_
      refine lv_istore (lv' := [(9, .int v_98), (8, .int r_92), (7, .int r_88), (0, .ref (L 0)), (1, .int x1), (2, .int 0), (3, .int x3), (4, .int x4), (5, .int x5), (6, .int x6)]) hx hb dL_holds_307 hl_94 (by decide) rfl (fun ls_99 hl_99 => ?_)
      clear hl_94
      refine lv_iload hx hb dL_holds_309 (lv_at hl_99 2 rfl) ?_
      refine lv_iload_n hx hb dL_holds_311 rfl (lv_at hl_99 4 rfl) ?_
      refine lv_iconst (v := (-1)) hx hb dL_holds_312 (by decide) ?_
      refine lv_ixor hx hb dL_holds_313 ?_
      refine lv_iand hx hb dL_holds_314 ?_
      refine lv_if_ne (tgt := 384) hx hb dL_holds_315 (by decide) (fun c_100 => ?_) (fun c_100 => ?_)
      · rw [if_neg c_100] at hf
        refine lv_iconst (v := 0) hx hb dL_holds_384 (by decide) ?_
        obtain ⟨rfl, rfl⟩ := Prod.mk.inj (Option.some.inj hf)
        exact e_n hx hb hr (bo_n (by decide)) hK hN hO_97 hlocks dL_holds_385
      · rw [if_pos c_100] at hf
        refine lv_iload_n hx hb dL_holds_318 rfl (lv_at hl_99 4 rfl) ?_
        refine lv_iload hx hb dL_holds_319 (lv_at hl_99 1 rfl) ?_
        refine lv_ishr hx hb dL_holds_321 ?_
        refine lv_iconst (v := 1) hx hb dL_holds_322 (by decide) ?_
        refine lv_iand hx hb dL_holds_323 ?_
        refine lv_if_eq (tgt := 384) hx hb dL_holds_324 (by decide) (fun c_101 => ?_) (fun c_101 => ?_)
        · rw [if_pos c_101] at hf
          refine lv_iconst (v := 0) hx hb dL_holds_384 (by decide) ?_
          obtain ⟨rfl, rfl⟩ := Prod.mk.inj (Option.some.inj hf)
          exact e_n hx hb hr (bo_n (by decide)) hK hN hO_97 hlocks dL_holds_385
        · rw [if_neg c_101] at hf
          refine lv_aload_n hx hb dL_holds_327 rfl (lv_at hl_99 3 rfl) ?_
          replace hf := zi_some hf
          obtain ⟨r_103, X_102, hc_102, hf⟩ := hf
          refine k_ai (va_runV (As := []) (rest := []) ⟨hx, hb, hml, hown, hts⟩ (mX8_won l D L ac hL _  _ _ hc_102) (cwV 0 hts gL_holds_X8_won rfl rfl rfl (by decide +kernel) ⟨Nat.le_of_ble_eq_true rfl, Nat.le_of_ble_eq_true rfl⟩) (k_pv (j := 0) hK hN hO_97 (by decide) rfl rfl _) rfl rfl hl_99.1 rfl (lv_room (Nat.le_of_ble_eq_true rfl)) dL_holds_328 ⟨Nat.le_of_ble_eq_true rfl, Nat.le_of_ble_eq_true rfl⟩) hA hO_97 (fun H_104 locs_104 hO_104 => ?_)
          clear hO_97
          refine lv_iconst (v := 1) hx hb dL_holds_331 (by decide) ?_
          refine lv_icmp_ne (tgt := 339) hx hb dL_holds_332 (by decide) (fun c_105 => ?_) (fun c_105 => ?_)
          · rw [if_neg c_105] at hf
            refine lv_iconst (v := 0) hx hb dL_holds_339 (by decide) ?_
            refine lv_iload hx hb dL_holds_340 (lv_at hl_99 2 rfl) ?_
            refine lv_if_eq (tgt := 349) hx hb dL_holds_342 (by decide) (fun c_106 => ?_) (fun c_106 => ?_)
            · rw [if_pos c_106] at hf
              subst c_106
              refine lv_iconst (v := 0) hx hb dL_holds_349 (by decide) ?_
              refine lv_icmp_ne (tgt := 384) hx hb dL_holds_350 (by decide) (fun c_107 => absurd (by decide) c_107) (fun _ => ?_)
              exact wL_holds_353 hL F  fuel _ _ _ _ _ _ _ _ _ _  _ _ _ hO_104 (lv_sub hl_99 [3, 4, 5, 6, 7, 8, 9, 2, 1, 0] rfl) hf
            · rw [if_neg c_106] at hf
              refine lv_iconst (v := 1) hx hb dL_holds_345 (by decide) ?_
              refine lv_goto (tgt := 350) hx hb dL_holds_346 (by decide) ?_
              refine lv_icmp_ne (tgt := 384) hx hb dL_holds_350 (by decide) (fun _ => ?_) (fun c_108 => absurd c_108 (by decide))
              refine lv_iconst (v := 0) hx hb dL_holds_384 (by decide) ?_
              obtain ⟨rfl, rfl⟩ := Prod.mk.inj (Option.some.inj hf)
              exact e_n hx hb hr (bo_n (by decide)) hK hN hO_104 hlocks dL_holds_385
          · rw [if_pos c_105] at hf
            subst c_105
            refine lv_iconst (v := 1) hx hb dL_holds_335 (by decide) ?_
            refine lv_goto (tgt := 340) hx hb dL_holds_336 (by decide) ?_
            refine lv_iload hx hb dL_holds_340 (lv_at hl_99 2 rfl) ?_
            refine lv_if_eq (tgt := 349) hx hb dL_holds_342 (by decide) (fun c_109 => ?_) (fun c_109 => ?_)
            · rw [if_pos c_109] at hf
              subst c_109
              refine lv_iconst (v := 0) hx hb dL_holds_349 (by decide) ?_
              refine lv_icmp_ne (tgt := 384) hx hb dL_holds_350 (by decide) (fun _ => ?_) (fun c_110 => absurd c_110 (by decide))
              refine lv_iconst (v := 0) hx hb dL_holds_384 (by decide) ?_
              obtain ⟨rfl, rfl⟩ := Prod.mk.inj (Option.some.inj hf)
              exact e_n hx hb hr (bo_n (by decide)) hK hN hO_104 hlocks dL_holds_385
            · rw [if_neg c_109] at hf
              refine lv_iconst (v := 1) hx hb dL_holds_345 (by decide) ?_
              refine lv_goto (tgt := 350) hx hb dL_holds_346 (by decide) ?_
              refine lv_icmp_ne (tgt := 384) hx hb dL_holds_350 (by decide) (fun c_111 => absurd (by decide) c_111) (fun _ => ?_)
              exact wL_holds_353 hL F  fuel _ _ _ _ _ _ _ _ _ _  _ _ _ hO_104 (lv_sub hl_99 [3, 4, 5, 6, 7, 8, 9, 2, 1, 0] rfl) hf
    · rw [if_neg c_86] at hf
      refine lv_aload_n hx hb dL_holds_245 rfl (lv_at hl 0 rfl) ?_
      replace hf := zi_some hf
      obtain ⟨r_113, X_112, hc_112, hf⟩ := hf
      refine k_ai (va_runV (As := []) (rest := []) ⟨hx, hb, hml, hown, hts⟩ (mX8_value l D L ac hL _  _ _ hc_112) (cwV 0 hts gL_holds_X8_value rfl rfl rfl (by decide +kernel) ⟨Nat.le_of_ble_eq_true rfl, Nat.le_of_ble_eq_true rfl⟩) (k_pv (j := 0) hK hN hO (by decide) rfl rfl _) rfl rfl hl.1 rfl (lv_room (Nat.le_of_ble_eq_true rfl)) dL_holds_246 ⟨Nat.le_of_ble_eq_true rfl, Nat.le_of_ble_eq_true rfl⟩) hA hO (fun H_114 locs_114 hO_114 => ?_)
      clear hO
      refine lv_bipush (v := (-5)) hx hb dL_holds_249 (by decide) ?_
      refine lv_icmp_ne (tgt := 285) hx hb dL_holds_251 (by decide) (fun c_115 => ?_) (fun c_115 => ?_)
      · rw [if_neg c_115] at hf
        refine lv_iconst (v := 0) hx hb dL_holds_285 (by decide) ?_
        obtain ⟨rfl, rfl⟩ := Prod.mk.inj (Option.some.inj hf)
        exact e_n hx hb hr (bo_n (by decide)) hK hN hO_114 hlocks dL_holds_286
      · rw [if_pos c_115] at hf
        subst c_115
        refine lv_aload_n hx hb dL_holds_254 rfl (lv_at hl 0 rfl) ?_
        replace hf := zi_some hf
        obtain ⟨r_117, X_116, hc_116, hf⟩ := hf
        refine k_ai (va_runV (As := []) (rest := []) ⟨hx, hb, hml, hown, hts⟩ (mX8_won l D L ac hL _  _ _ hc_116) (cwV 0 hts gL_holds_X8_won rfl rfl rfl (by decide +kernel) ⟨Nat.le_of_ble_eq_true rfl, Nat.le_of_ble_eq_true rfl⟩) (k_pv (j := 0) hK hN hO_114 (by decide) rfl rfl _) rfl rfl hl.1 rfl (lv_room (Nat.le_of_ble_eq_true rfl)) dL_holds_255 ⟨Nat.le_of_ble_eq_true rfl, Nat.le_of_ble_eq_true rfl⟩) hA hO_114 (fun H_118 locs_118 hO_118 => ?_)
        clear hO_114
        refine lv_bipush (v := (-5)) hx hb dL_holds_258 (by decide) ?_
        refine lv_icmp_ne (tgt := 285) hx hb dL_holds_260 (by decide) (fun c_119 => ?_) (fun c_119 => ?_)
        · rw [if_neg c_119] at hf
          refine lv_iconst (v := 0) hx hb dL_holds_285 (by decide) ?_
          obtain ⟨rfl, rfl⟩ := Prod.mk.inj (Option.some.inj hf)
          exact e_n hx hb hr (bo_n (by decide)) hK hN hO_118 hlocks dL_holds_286
        · rw [if_pos c_119] at hf
          subst c_119
          refine lv_aload_n hx hb dL_holds_263 rfl (lv_at hl 0 rfl) ?_
          replace hf := zi_some hf
          obtain ⟨r_121, X_120, hc_120, hf⟩ := hf
          refine k_ai (va_runV (As := []) (rest := []) ⟨hx, hb, hml, hown, hts⟩ (mX8_winning l D L ac hL _  _ _ hc_120) (cwV 0 hts gL_holds_X8_winning rfl rfl rfl (by decide +kernel) ⟨Nat.le_of_ble_eq_true rfl, Nat.le_of_ble_eq_true rfl⟩) (k_pv (j := 0) hK hN hO_118 (by decide) rfl rfl _) rfl rfl hl.1 rfl (lv_room (Nat.le_of_ble_eq_true rfl)) dL_holds_264 ⟨Nat.le_of_ble_eq_true rfl, Nat.le_of_ble_eq_true rfl⟩) hA hO_118 (fun H_122 locs_122 hO_122 => ?_)
          clear hO_118
          refine lv_bipush (v := (-5)) hx hb dL_holds_267 (by decide) ?_
          refine lv_icmp_ne (tgt := 285) hx hb dL_holds_269 (by decide) (fun c_123 => ?_) (fun c_123 => ?_)
          · rw [if_neg c_123] at hf
            refine lv_iconst (v := 0) hx hb dL_holds_285 (by decide) ?_
            obtain ⟨rfl, rfl⟩ := Prod.mk.inj (Option.some.inj hf)
            exact e_n hx hb hr (bo_n (by decide)) hK hN hO_122 hlocks dL_holds_286
          · rw [if_pos c_123] at hf
            subst c_123
            refine lv_aload_n hx hb dL_holds_272 rfl (lv_at hl 0 rfl) ?_
            replace hf := zi_some hf
            obtain ⟨r_125, X_124, hc_124, hf⟩ := hf
            refine k_ai (va_runV (As := []) (rest := []) ⟨hx, hb, hml, hown, hts⟩ (mX8_best l D L ac hL _  _ _ hc_124) (cwV 0 hts gL_holds_X8_best rfl rfl rfl (by decide +kernel) ⟨Nat.le_of_ble_eq_true rfl, Nat.le_of_ble_eq_true rfl⟩) (k_pv (j := 0) hK hN hO_122 (by decide) rfl rfl _) rfl rfl hl.1 rfl (lv_room (Nat.le_of_ble_eq_true rfl)) dL_holds_273 ⟨Nat.le_of_ble_eq_true rfl, Nat.le_of_ble_eq_true rfl⟩) hA hO_122 (fun H_126 locs_126 hO_126 => ?_)
            clear hO_122
            refine lv_bipush (v := (-5)) hx hb dL_holds_276 (by decide) ?_
            refine lv_icmp_ne (tgt := 285) hx hb dL_holds_278 (by decide) (fun c_127 => ?_) (fun c_127 => ?_)
            · rw [if_neg c_127] at hf
              refine lv_iconst (v := 0) hx hb dL_holds_285 (by decide) ?_
              obtain ⟨rfl, rfl⟩ := Prod.mk.inj (Option.some.inj hf)
              exact e_n hx hb hr (bo_n (by decide)) hK hN hO_126 hlocks dL_holds_286
            · rw [if_pos c_127] at hf
              subst c_127
              refine lv_iconst (v := 1) hx hb dL_holds_281 (by decide) ?_
              refine lv_goto (tgt := 286) hx hb dL_holds_282 (by decide) ?_
              obtain ⟨rfl, rfl⟩ := Prod.mk.inj (Option.some.inj hf)
              exact e_n hx hb hr (bo_n (by decide)) hK hN hO_126 hlocks dL_holds_286
def fL_holds_53   : Nat → Int32 → Int32 → Int32 → Int32 → Int32 → Int32 → XM → Option (Int32 × XM)
  | 0, _, _, _, _, _, _, _ => none
  | n + 1, x1, x2, x3, x4, x5, x6, X => zi (fX8_count 0 X) (fun r_129 X_128 => if r_129 ≤ x6 then zi (fX8_ofPlayer 0 2 X_128) (fun r_133 X_132 => zi (fX8_ofPlayer 1 2 X_132) (fun r_136 X_135 => zl ((r_133 + r_136) - 200) (fun v_138 => zi (fX8_ofPlayer 0 0 X_135) (fun r_141 X_140 => zi (fX8_ofPlayer 1 0 X_140) (fun r_144 X_143 => if v_138 = (r_141 + r_144) then zi (fX8_count 1 X_143) (fun r_148 X_147 => if x3 = r_148 then if x1 = 0 then if x2 = 1 then zi (fX8_count 4 X_147) (fun r_161 X_160 => if r_161 < 0 then some (0, X_160) else fL_holds_241 fuel 0 1 x3 x4 x5 v_138 X_160) else some (0, X_147) else if x2 = 0 then zi (fX8_count 4 X_147) (fun r_154 X_153 => if r_154 < 0 then fL_holds_241 fuel x1 0 x3 x4 x5 v_138 X_153 else some (0, X_153)) else some (0, X_147) else some (0, X_147)) else some (0, X_143)))))) else zi (fX8_ofPile x6 0 X_128) (fun r_167 X_166 => zl (x3 + r_167) (fun v_169 => if x4 = 0 then fL_holds_95 (fL_holds_53 n) fuel x1 x2 v_169 0 x5 x6 X_166 else zi (fX8_ofPile x6 2 X_166) (fun r_174 X_173 => if r_174 = 0 then fL_holds_95 (fL_holds_53 n) fuel x1 x2 v_169 1 x5 x6 X_173 else fL_holds_95 (fL_holds_53 n) fuel x1 x2 v_169 0 x5 x6 X_173))))
set_option maxHeartbeats 4000000 in
set_option maxRecDepth 100000 in
theorem wL_holds_53 {p : Program} {l : Launch} {e : Env} {s : State} {m : MethodId} {args : Array Value} {below : List Frame} {meth : Method} {c : Code} {D : va_G} {L : Nat → Nat} {ac : Nat → ClassId} {r0 : Int32} {X0 : XM} (hL : LL L) (F : Fx p s m args meth c cL_holds 15 (some .boolean) wsL_holds yL_holds.cls D ac) : ∀ (n : Nat) (x1 : Int32) (x2 : Int32) (x3 : Int32) (x4 : Int32) (x5 : Int32) (x6 : Int32) (X : XM) (H : Heap) (locs : List Loc) (ls : Array Slot), Oh D L ac X (fr L) s.heap H locs → lv_has ls 15 [(0, .ref (L 0)), (1, .int x1), (2, .int x2), (3, .int x3), (4, .int x4), (5, .int x5), (6, .int x6)] → fL_holds_53 n x1 x2 x3 x4 x5 x6 X = some (r0, X0) → W p l e (headSpec wsL_holds ({ frames := 67, cells := 0, slots := 0, locals := 2026 })).room s m args below meth c H locs 0 0 (MQ below (va_Qi (fun (r : Int32) (Y : XM) => r = r0 ∧ Y = X0) (fun (Y : XM) t => St D L ac Y t) (fr L)) args s 0 0 (fr L)) (F0 m 53 ls []) := by
  obtain ⟨hx, hb, hr, hts, hown, hlocks, hml, hK, hN⟩ := id F
  have hA : ∀ q, fr L q → fr L q := fun q h => h
  intro n
  induction n with
  | zero => intro x1 x2 x3 x4 x5 x6 X H locs ls hO hl hf; simp [fL_holds_53] at hf
  | succ n ih =>
    intro x1 x2 x3 x4 x5 x6 X H locs ls hO hl hf
    rw [fL_holds_53] at hf
    refine lv_iload hx hb dL_holds_53 (lv_at hl 6 rfl) ?_
    refine lv_aload_n hx hb dL_holds_55 rfl (lv_at hl 0 rfl) ?_
    refine lv_iconst (v := 0) hx hb dL_holds_56 (by decide) ?_
    replace hf := zi_some hf
    obtain ⟨r_129, X_128, hc_128, hf⟩ := hf
    refine k_ai (va_runV (As := [.int 0]) (rest := [.int x6]) ⟨hx, hb, hml, hown, hts⟩ (mX8_count l D L ac hL _ 0 _ _ hc_128) (cwV 1 hts gL_holds_X8_count rfl rfl rfl (by decide +kernel) ⟨Nat.le_of_ble_eq_true rfl, Nat.le_of_ble_eq_true rfl⟩) (k_pv (j := 0) hK hN hO (by decide) rfl rfl _) rfl rfl hl.1 rfl (lv_room (Nat.le_of_ble_eq_true rfl)) dL_holds_57 ⟨Nat.le_of_ble_eq_true rfl, Nat.le_of_ble_eq_true rfl⟩) hA hO (fun H_130 locs_130 hO_130 => ?_)
    clear hO
    refine lv_icmp_ge (tgt := 163) hx hb dL_holds_60 (by decide) (fun c_131 => ?_) (fun c_131 => ?_)
    · rw [if_pos c_131] at hf
      refine lv_aload_n hx hb dL_holds_163 rfl (lv_at hl 0 rfl) ?_
      refine lv_iconst (v := 0) hx hb dL_holds_164 (by decide) ?_
      refine lv_iconst (v := 2) hx hb dL_holds_165 (by decide) ?_
      replace hf := zi_some hf
      obtain ⟨r_133, X_132, hc_132, hf⟩ := hf
      refine k_ai (va_runV (As := [.int 0, .int 2]) (rest := []) ⟨hx, hb, hml, hown, hts⟩ (mX8_ofPlayer l D L ac hL _ 0 2 _ _ hc_132) (cwV 2 hts gL_holds_X8_ofPlayer rfl rfl rfl (by decide +kernel) ⟨Nat.le_of_ble_eq_true rfl, Nat.le_of_ble_eq_true rfl⟩) (k_pv (j := 0) hK hN hO_130 (by decide) rfl rfl _) rfl rfl hl.1 rfl (lv_room (Nat.le_of_ble_eq_true rfl)) dL_holds_166 ⟨Nat.le_of_ble_eq_true rfl, Nat.le_of_ble_eq_true rfl⟩) hA hO_130 (fun H_134 locs_134 hO_134 => ?_)
      clear hO_130
      refine lv_aload_n hx hb dL_holds_169 rfl (lv_at hl 0 rfl) ?_
      refine lv_iconst (v := 1) hx hb dL_holds_170 (by decide) ?_
      refine lv_iconst (v := 2) hx hb dL_holds_171 (by decide) ?_
      replace hf := zi_some hf
      obtain ⟨r_136, X_135, hc_135, hf⟩ := hf
      refine k_ai (va_runV (As := [.int 1, .int 2]) (rest := [.int r_133]) ⟨hx, hb, hml, hown, hts⟩ (mX8_ofPlayer l D L ac hL _ 1 2 _ _ hc_135) (cwV 2 hts gL_holds_X8_ofPlayer rfl rfl rfl (by decide +kernel) ⟨Nat.le_of_ble_eq_true rfl, Nat.le_of_ble_eq_true rfl⟩) (k_pv (j := 0) hK hN hO_134 (by decide) rfl rfl _) rfl rfl hl.1 rfl (lv_room (Nat.le_of_ble_eq_true rfl)) dL_holds_172 ⟨Nat.le_of_ble_eq_true rfl, Nat.le_of_ble_eq_true rfl⟩) hA hO_134 (fun H_137 locs_137 hO_137 => ?_)
      clear hO_134
      refine lv_iadd hx hb dL_holds_175 ?_
      refine lv_sipush (v := 200) hx hb dL_holds_176 (by decide) ?_
      refine lv_isub hx hb dL_holds_179 ?_
      replace hf := zl_some hf
      obtain ⟨v_138, hv_138, hf⟩ := hf
      refine lv_tope hv_138 ?_
      refine lv_istore (lv' := [(6, .int v_138), (0, .ref (L 0)), (1, .int x1), (2, .int x2), (3, .int x3), (4, .int x4), (5, .int x5)]) hx hb dL_holds_180 hl (by decide) rfl (fun ls_139 hl_139 => ?_)
      clear hl
      refine lv_iload hx hb dL_holds_182 (lv_at hl_139 0 rfl) ?_
      refine lv_aload_n hx hb dL_holds_184 rfl (lv_at hl_139 1 rfl) ?_
      refine lv_iconst (v := 0) hx hb dL_holds_185 (by decide) ?_
      refine lv_iconst (v := 0) hx hb dL_holds_186 (by decide) ?_
      replace hf := zi_some hf
      obtain ⟨r_141, X_140, hc_140, hf⟩ := hf
      refine k_ai (va_runV (As := [.int 0, .int 0]) (rest := [.int v_138]) ⟨hx, hb, hml, hown, hts⟩ (mX8_ofPlayer l D L ac hL _ 0 0 _ _ hc_140) (cwV 2 hts gL_holds_X8_ofPlayer rfl rfl rfl (by decide +kernel) ⟨Nat.le_of_ble_eq_true rfl, Nat.le_of_ble_eq_true rfl⟩) (k_pv (j := 0) hK hN hO_137 (by decide) rfl rfl _) rfl rfl hl_139.1 rfl (lv_room (Nat.le_of_ble_eq_true rfl)) dL_holds_187 ⟨Nat.le_of_ble_eq_true rfl, Nat.le_of_ble_eq_true rfl⟩) hA hO_137 (fun H_142 locs_142 hO_142 => ?_)
      clear hO_137
      refine lv_aload_n hx hb dL_holds_190 rfl (lv_at hl_139 1 rfl) ?_
      refine lv_iconst (v := 1) hx hb dL_holds_191 (by decide) ?_
      refine lv_iconst (v := 0) hx hb dL_holds_192 (by decide) ?_
      replace hf := zi_some hf
      obtain ⟨r_144, X_143, hc_143, hf⟩ := hf
      refine k_ai (va_runV (As := [.int 1, .int 0]) (rest := [.int r_141, .int v_138]) ⟨hx, hb, hml, hown, hts⟩ (mX8_ofPlayer l D L ac hL _ 1 0 _ _ hc_143) (cwV 2 hts gL_holds_X8_ofPlayer rfl rfl rfl (by decide +kernel) ⟨Nat.le_of_ble_eq_true rfl, Nat.le_of_ble_eq_true rfl⟩) (k_pv (j := 0) hK hN hO_142 (by decide) rfl rfl _) rfl rfl hl_139.1 rfl (lv_room (Nat.le_of_ble_eq_true rfl)) dL_holds_193 ⟨Nat.le_of_ble_eq_true rfl, Nat.le_of_ble_eq_true rfl⟩) hA hO_142 (fun H_145 locs_145 hO_145 => ?_)
      clear hO_142
      refine lv_iadd hx hb dL_holds_196 ?_
      refine lv_icmp_ne (tgt := 239) hx hb dL_holds_197 (by decide) (fun c_146 => ?_) (fun c_146 => ?_)
      · rw [if_neg c_146] at hf
        refine lv_iconst (v := 0) hx hb dL_holds_239 (by decide) ?_
        obtain ⟨rfl, rfl⟩ := Prod.mk.inj (Option.some.inj hf)
        exact e_n hx hb hr (bo_n (by decide)) hK hN hO_145 hlocks dL_holds_240
      · rw [if_pos c_146] at hf
        refine lv_iload_n hx hb dL_holds_200 rfl (lv_at hl_139 4 rfl) ?_
        refine lv_aload_n hx hb dL_holds_201 rfl (lv_at hl_139 1 rfl) ?_
        refine lv_iconst (v := 1) hx hb dL_holds_202 (by decide) ?_
        replace hf := zi_some hf
        obtain ⟨r_148, X_147, hc_147, hf⟩ := hf
        refine k_ai (va_runV (As := [.int 1]) (rest := [.int x3]) ⟨hx, hb, hml, hown, hts⟩ (mX8_count l D L ac hL _ 1 _ _ hc_147) (cwV 1 hts gL_holds_X8_count rfl rfl rfl (by decide +kernel) ⟨Nat.le_of_ble_eq_true rfl, Nat.le_of_ble_eq_true rfl⟩) (k_pv (j := 0) hK hN hO_145 (by decide) rfl rfl _) rfl rfl hl_139.1 rfl (lv_room (Nat.le_of_ble_eq_true rfl)) dL_holds_203 ⟨Nat.le_of_ble_eq_true rfl, Nat.le_of_ble_eq_true rfl⟩) hA hO_145 (fun H_149 locs_149 hO_149 => ?_)
        clear hO_145
        refine lv_icmp_ne (tgt := 239) hx hb dL_holds_206 (by decide) (fun c_150 => ?_) (fun c_150 => ?_)
        · rw [if_neg c_150] at hf
          refine lv_iconst (v := 0) hx hb dL_holds_239 (by decide) ?_
          obtain ⟨rfl, rfl⟩ := Prod.mk.inj (Option.some.inj hf)
          exact e_n hx hb hr (bo_n (by decide)) hK hN hO_149 hlocks dL_holds_240
        · rw [if_pos c_150] at hf
          refine lv_iload_n hx hb dL_holds_209 rfl (lv_at hl_139 3 rfl) ?_
          refine lv_iload_n hx hb dL_holds_210 rfl (lv_at hl_139 2 rfl) ?_
          refine lv_if_ne (tgt := 218) hx hb dL_holds_211 (by decide) (fun c_151 => ?_) (fun c_151 => ?_)
          · rw [if_neg c_151] at hf
            refine lv_iconst (v := 0) hx hb dL_holds_218 (by decide) ?_
            refine lv_icmp_ne (tgt := 239) hx hb dL_holds_219 (by decide) (fun c_152 => ?_) (fun c_152 => ?_)
            · rw [if_neg c_152] at hf
              refine lv_iconst (v := 0) hx hb dL_holds_239 (by decide) ?_
              obtain ⟨rfl, rfl⟩ := Prod.mk.inj (Option.some.inj hf)
              exact e_n hx hb hr (bo_n (by decide)) hK hN hO_149 hlocks dL_holds_240
            · rw [if_pos c_152] at hf
              subst c_152
              refine lv_iload_n hx hb dL_holds_222 rfl (lv_at hl_139 3 rfl) ?_
              refine lv_aload_n hx hb dL_holds_223 rfl (lv_at hl_139 1 rfl) ?_
              refine lv_iconst (v := 4) hx hb dL_holds_224 (by decide) ?_
              replace hf := zi_some hf
              obtain ⟨r_154, X_153, hc_153, hf⟩ := hf
              refine k_ai (va_runV (As := [.int 4]) (rest := [.int 0]) ⟨hx, hb, hml, hown, hts⟩ (mX8_count l D L ac hL _ 4 _ _ hc_153) (cwV 1 hts gL_holds_X8_count rfl rfl rfl (by decide +kernel) ⟨Nat.le_of_ble_eq_true rfl, Nat.le_of_ble_eq_true rfl⟩) (k_pv (j := 0) hK hN hO_149 (by decide) rfl rfl _) rfl rfl hl_139.1 rfl (lv_room (Nat.le_of_ble_eq_true rfl)) dL_holds_225 ⟨Nat.le_of_ble_eq_true rfl, Nat.le_of_ble_eq_true rfl⟩) hA hO_149 (fun H_155 locs_155 hO_155 => ?_)
              clear hO_149
              refine lv_if_lt (tgt := 235) hx hb dL_holds_228 (by decide) (fun c_156 => ?_) (fun c_156 => ?_)
              · rw [if_pos c_156] at hf
                refine lv_iconst (v := 0) hx hb dL_holds_235 (by decide) ?_
                refine lv_icmp_eq (tgt := 241) hx hb dL_holds_236 (by decide) (fun _ => ?_) (fun c_157 => absurd (by decide) c_157)
                exact wL_holds_241 hL F  fuel _ _ _ _ _ _ _  _ _ _ hO_155 (lv_sub hl_139 [1, 2, 3, 4, 5, 6, 0] rfl) hf
              · rw [if_neg c_156] at hf
                refine lv_iconst (v := 1) hx hb dL_holds_231 (by decide) ?_
                refine lv_goto (tgt := 236) hx hb dL_holds_232 (by decide) ?_
                refine lv_icmp_eq (tgt := 241) hx hb dL_holds_236 (by decide) (fun c_158 => absurd c_158 (by decide)) (fun _ => ?_)
                refine lv_iconst (v := 0) hx hb dL_holds_239 (by decide) ?_
                obtain ⟨rfl, rfl⟩ := Prod.mk.inj (Option.some.inj hf)
                exact e_n hx hb hr (bo_n (by decide)) hK hN hO_155 hlocks dL_holds_240
          · rw [if_pos c_151] at hf
            subst c_151
            refine lv_iconst (v := 1) hx hb dL_holds_214 (by decide) ?_
            refine lv_goto (tgt := 219) hx hb dL_holds_215 (by decide) ?_
            refine lv_icmp_ne (tgt := 239) hx hb dL_holds_219 (by decide) (fun c_159 => ?_) (fun c_159 => ?_)
            · rw [if_neg c_159] at hf
              refine lv_iconst (v := 0) hx hb dL_holds_239 (by decide) ?_
              obtain ⟨rfl, rfl⟩ := Prod.mk.inj (Option.some.inj hf)
              exact e_n hx hb hr (bo_n (by decide)) hK hN hO_149 hlocks dL_holds_240
            · rw [if_pos c_159] at hf
              subst c_159
              refine lv_iload_n hx hb dL_holds_222 rfl (lv_at hl_139 3 rfl) ?_
              refine lv_aload_n hx hb dL_holds_223 rfl (lv_at hl_139 1 rfl) ?_
              refine lv_iconst (v := 4) hx hb dL_holds_224 (by decide) ?_
              replace hf := zi_some hf
              obtain ⟨r_161, X_160, hc_160, hf⟩ := hf
              refine k_ai (va_runV (As := [.int 4]) (rest := [.int 1]) ⟨hx, hb, hml, hown, hts⟩ (mX8_count l D L ac hL _ 4 _ _ hc_160) (cwV 1 hts gL_holds_X8_count rfl rfl rfl (by decide +kernel) ⟨Nat.le_of_ble_eq_true rfl, Nat.le_of_ble_eq_true rfl⟩) (k_pv (j := 0) hK hN hO_149 (by decide) rfl rfl _) rfl rfl hl_139.1 rfl (lv_room (Nat.le_of_ble_eq_true rfl)) dL_holds_225 ⟨Nat.le_of_ble_eq_true rfl, Nat.le_of_ble_eq_true rfl⟩) hA hO_149 (fun H_162 locs_162 hO_162 => ?_)
              clear hO_149
              refine lv_if_lt (tgt := 235) hx hb dL_holds_228 (by decide) (fun c_163 => ?_) (fun c_163 => ?_)
              · rw [if_pos c_163] at hf
                refine lv_iconst (v := 0) hx hb dL_holds_235 (by decide) ?_
                refine lv_icmp_eq (tgt := 241) hx hb dL_holds_236 (by decide) (fun c_164 => absurd c_164 (by decide)) (fun _ => ?_)
                refine lv_iconst (v := 0) hx hb dL_holds_239 (by decide) ?_
                obtain ⟨rfl, rfl⟩ := Prod.mk.inj (Option.some.inj hf)
                exact e_n hx hb hr (bo_n (by decide)) hK hN hO_162 hlocks dL_holds_240
              · rw [if_neg c_163] at hf
                refine lv_iconst (v := 1) hx hb dL_holds_231 (by decide) ?_
                refine lv_goto (tgt := 236) hx hb dL_holds_232 (by decide) ?_
                refine lv_icmp_eq (tgt := 241) hx hb dL_holds_236 (by decide) (fun _ => ?_) (fun c_165 => absurd (by decide) c_165)
                exact wL_holds_241 hL F  fuel _ _ _ _ _ _ _  _ _ _ hO_162 (lv_sub hl_139 [1, 2, 3, 4, 5, 6, 0] rfl) hf
    · rw [if_neg c_131] at hf
      refine lv_iload_n hx hb dL_holds_63 rfl (lv_at hl 3 rfl) ?_
      refine lv_aload_n hx hb dL_holds_64 rfl (lv_at hl 0 rfl) ?_
      refine lv_iload hx hb dL_holds_65 (lv_at hl 6 rfl) ?_
      refine lv_iconst (v := 0) hx hb dL_holds_67 (by decide) ?_
      replace hf := zi_some hf
      obtain ⟨r_167, X_166, hc_166, hf⟩ := hf
      refine k_ai (va_runV (As := [.int x6, .int 0]) (rest := [.int x3]) ⟨hx, hb, hml, hown, hts⟩ (mX8_ofPile l D L ac hL _ x6 0 _ _ hc_166) (cwV 2 hts gL_holds_X8_ofPile rfl rfl rfl (by decide +kernel) ⟨Nat.le_of_ble_eq_true rfl, Nat.le_of_ble_eq_true rfl⟩) (k_pv (j := 0) hK hN hO_130 (by decide) rfl rfl _) rfl rfl hl.1 rfl (lv_room (Nat.le_of_ble_eq_true rfl)) dL_holds_68 ⟨Nat.le_of_ble_eq_true rfl, Nat.le_of_ble_eq_true rfl⟩) hA hO_130 (fun H_168 locs_168 hO_168 => ?_)
      clear hO_130
      refine lv_iadd hx hb dL_holds_71 ?_
      replace hf := zl_some hf
      obtain ⟨v_169, hv_169, hf⟩ := hf
      refine lv_tope hv_169 ?_
      refine lv_istore_n (lv' := [(3, .int v_169), (0, .ref (L 0)), (1, .int x1), (2, .int x2), (4, .int x4), (5, .int x5), (6, .int x6)]) hx hb dL_holds_72 rfl hl (by decide) rfl (fun ls_170 hl_170 => ?_)
      clear hl
      refine lv_iload hx hb dL_holds_73 (lv_at hl_170 4 rfl) ?_
      refine lv_if_eq (tgt := 92) hx hb dL_holds_75 (by decide) (fun c_171 => ?_) (fun c_171 => ?_)
      · rw [if_pos c_171] at hf
        subst c_171
        refine lv_iconst (v := 0) hx hb dL_holds_92 (by decide) ?_
        refine lv_istore (lv' := [(4, .int 0), (3, .int v_169), (0, .ref (L 0)), (1, .int x1), (2, .int x2), (5, .int x5), (6, .int x6)]) hx hb dL_holds_93 hl_170 (by decide) rfl (fun ls_172 hl_172 => ?_)
        clear hl_170
        exact wL_holds_95 hL F _ ih fuel _ _ _ _ _ _ _  _ _ _ hO_168 (lv_sub hl_172 [2, 3, 4, 1, 0, 5, 6] rfl) hf
      · rw [if_neg c_171] at hf
        refine lv_aload_n hx hb dL_holds_78 rfl (lv_at hl_170 1 rfl) ?_
        refine lv_iload hx hb dL_holds_79 (lv_at hl_170 6 rfl) ?_
        refine lv_iconst (v := 2) hx hb dL_holds_81 (by decide) ?_
        replace hf := zi_some hf
        obtain ⟨r_174, X_173, hc_173, hf⟩ := hf
        refine k_ai (va_runV (As := [.int x6, .int 2]) (rest := []) ⟨hx, hb, hml, hown, hts⟩ (mX8_ofPile l D L ac hL _ x6 2 _ _ hc_173) (cwV 2 hts gL_holds_X8_ofPile rfl rfl rfl (by decide +kernel) ⟨Nat.le_of_ble_eq_true rfl, Nat.le_of_ble_eq_true rfl⟩) (k_pv (j := 0) hK hN hO_168 (by decide) rfl rfl _) rfl rfl hl_170.1 rfl (lv_room (Nat.le_of_ble_eq_true rfl)) dL_holds_82 ⟨Nat.le_of_ble_eq_true rfl, Nat.le_of_ble_eq_true rfl⟩) hA hO_168 (fun H_175 locs_175 hO_175 => ?_)
        clear hO_168
        refine lv_if_ne (tgt := 92) hx hb dL_holds_85 (by decide) (fun c_176 => ?_) (fun c_176 => ?_)
        · rw [if_neg c_176] at hf
          refine lv_iconst (v := 0) hx hb dL_holds_92 (by decide) ?_
          refine lv_istore (lv' := [(4, .int 0), (3, .int v_169), (0, .ref (L 0)), (1, .int x1), (2, .int x2), (5, .int x5), (6, .int x6)]) hx hb dL_holds_93 hl_170 (by decide) rfl (fun ls_177 hl_177 => ?_)
          clear hl_170
          exact wL_holds_95 hL F _ ih fuel _ _ _ _ _ _ _  _ _ _ hO_175 (lv_sub hl_177 [2, 3, 4, 1, 0, 5, 6] rfl) hf
        · rw [if_pos c_176] at hf
          subst c_176
          refine lv_iconst (v := 1) hx hb dL_holds_88 (by decide) ?_
          refine lv_goto (tgt := 93) hx hb dL_holds_89 (by decide) ?_
          refine lv_istore (lv' := [(4, .int 1), (3, .int v_169), (0, .ref (L 0)), (1, .int x1), (2, .int x2), (5, .int x5), (6, .int x6)]) hx hb dL_holds_93 hl_170 (by decide) rfl (fun ls_178 hl_178 => ?_)
          clear hl_170
          exact wL_holds_95 hL F _ ih fuel _ _ _ _ _ _ _  _ _ _ hO_175 (lv_sub hl_178 [2, 3, 4, 1, 0, 5, 6] rfl) hf
def fL_holds_47   : Nat → Int32 → Int32 → Int32 → Int32 → XM → Option (Int32 × XM)
  | 0, _, _, _, _, _ => none
  | n + 1, x1, x2, x3, x4, X => fL_holds_53 fuel x1 x2 x3 x4 0 0 X
set_option maxHeartbeats 4000000 in
set_option maxRecDepth 100000 in
theorem wL_holds_47 {p : Program} {l : Launch} {e : Env} {s : State} {m : MethodId} {args : Array Value} {below : List Frame} {meth : Method} {c : Code} {D : va_G} {L : Nat → Nat} {ac : Nat → ClassId} {r0 : Int32} {X0 : XM} (hL : LL L) (F : Fx p s m args meth c cL_holds 15 (some .boolean) wsL_holds yL_holds.cls D ac) : ∀ (n : Nat) (x1 : Int32) (x2 : Int32) (x3 : Int32) (x4 : Int32) (X : XM) (H : Heap) (locs : List Loc) (ls : Array Slot), Oh D L ac X (fr L) s.heap H locs → lv_has ls 15 [(0, .ref (L 0)), (1, .int x1), (2, .int x2), (3, .int x3), (4, .int x4)] → fL_holds_47 n x1 x2 x3 x4 X = some (r0, X0) → W p l e (headSpec wsL_holds ({ frames := 67, cells := 0, slots := 0, locals := 2026 })).room s m args below meth c H locs 0 0 (MQ below (va_Qi (fun (r : Int32) (Y : XM) => r = r0 ∧ Y = X0) (fun (Y : XM) t => St D L ac Y t) (fr L)) args s 0 0 (fr L)) (F0 m 47 ls []) := by
  obtain ⟨hx, hb, hr, hts, hown, hlocks, hml, hK, hN⟩ := id F
  have hA : ∀ q, fr L q → fr L q := fun q h => h
  intro n
  induction n with
  | zero => intro x1 x2 x3 x4 X H locs ls hO hl hf; simp [fL_holds_47] at hf
  | succ n ih =>
    intro x1 x2 x3 x4 X H locs ls hO hl hf
    rw [fL_holds_47] at hf
    refine lv_iconst (v := 0) hx hb dL_holds_47 (by decide) ?_
    refine lv_istore (lv' := [(5, .int 0), (0, .ref (L 0)), (1, .int x1), (2, .int x2), (3, .int x3), (4, .int x4)]) hx hb dL_holds_48 hl (by decide) rfl (fun ls_179 hl_179 => ?_)
    clear hl
    refine lv_iconst (v := 0) hx hb dL_holds_50 (by decide) ?_
    refine lv_istore (lv' := [(6, .int 0), (5, .int 0), (0, .ref (L 0)), (1, .int x1), (2, .int x2), (3, .int x3), (4, .int x4)]) hx hb dL_holds_51 hl_179 (by decide) rfl (fun ls_180 hl_180 => ?_)
    clear hl_179
    exact wL_holds_53 hL F  fuel _ _ _ _ _ _ _  _ _ _ hO (lv_sub hl_180 [2, 3, 4, 5, 6, 1, 0] rfl) hf
def fL_holds_20   : Nat → Int32 → Int32 → XM → Option (Int32 × XM)
  | 0, _, _, _ => none
  | n + 1, x1, x2, X => zi (fX8_ofPlayer 0 1 X) (fun r_183 X_182 => if r_183 = 0 then zi (fX8_ofPlayer 1 1 X_182) (fun r_188 X_187 => if r_188 = 0 then fL_holds_47 fuel x1 x2 0 1 X_187 else fL_holds_47 fuel x1 x2 0 0 X_187) else fL_holds_47 fuel x1 x2 0 0 X_182)
set_option maxHeartbeats 4000000 in
set_option maxRecDepth 100000 in
theorem wL_holds_20 {p : Program} {l : Launch} {e : Env} {s : State} {m : MethodId} {args : Array Value} {below : List Frame} {meth : Method} {c : Code} {D : va_G} {L : Nat → Nat} {ac : Nat → ClassId} {r0 : Int32} {X0 : XM} (hL : LL L) (F : Fx p s m args meth c cL_holds 15 (some .boolean) wsL_holds yL_holds.cls D ac) : ∀ (n : Nat) (x1 : Int32) (x2 : Int32) (X : XM) (H : Heap) (locs : List Loc) (ls : Array Slot), Oh D L ac X (fr L) s.heap H locs → lv_has ls 15 [(0, .ref (L 0)), (1, .int x1), (2, .int x2)] → fL_holds_20 n x1 x2 X = some (r0, X0) → W p l e (headSpec wsL_holds ({ frames := 67, cells := 0, slots := 0, locals := 2026 })).room s m args below meth c H locs 0 0 (MQ below (va_Qi (fun (r : Int32) (Y : XM) => r = r0 ∧ Y = X0) (fun (Y : XM) t => St D L ac Y t) (fr L)) args s 0 0 (fr L)) (F0 m 20 ls []) := by
  obtain ⟨hx, hb, hr, hts, hown, hlocks, hml, hK, hN⟩ := id F
  have hA : ∀ q, fr L q → fr L q := fun q h => h
  intro n
  induction n with
  | zero => intro x1 x2 X H locs ls hO hl hf; simp [fL_holds_20] at hf
  | succ n ih =>
    intro x1 x2 X H locs ls hO hl hf
    rw [fL_holds_20] at hf
    refine lv_iconst (v := 0) hx hb dL_holds_20 (by decide) ?_
    refine lv_istore_n (lv' := [(3, .int 0), (0, .ref (L 0)), (1, .int x1), (2, .int x2)]) hx hb dL_holds_21 rfl hl (by decide) rfl (fun ls_181 hl_181 => ?_)
    clear hl
    refine lv_aload_n hx hb dL_holds_22 rfl (lv_at hl_181 1 rfl) ?_
    refine lv_iconst (v := 0) hx hb dL_holds_23 (by decide) ?_
    refine lv_iconst (v := 1) hx hb dL_holds_24 (by decide) ?_
    replace hf := zi_some hf
    obtain ⟨r_183, X_182, hc_182, hf⟩ := hf
    refine k_ai (va_runV (As := [.int 0, .int 1]) (rest := []) ⟨hx, hb, hml, hown, hts⟩ (mX8_ofPlayer l D L ac hL _ 0 1 _ _ hc_182) (cwV 2 hts gL_holds_X8_ofPlayer rfl rfl rfl (by decide +kernel) ⟨Nat.le_of_ble_eq_true rfl, Nat.le_of_ble_eq_true rfl⟩) (k_pv (j := 0) hK hN hO (by decide) rfl rfl _) rfl rfl hl_181.1 rfl (lv_room (Nat.le_of_ble_eq_true rfl)) dL_holds_25 ⟨Nat.le_of_ble_eq_true rfl, Nat.le_of_ble_eq_true rfl⟩) hA hO (fun H_184 locs_184 hO_184 => ?_)
    clear hO
    refine lv_if_ne (tgt := 44) hx hb dL_holds_28 (by decide) (fun c_185 => ?_) (fun c_185 => ?_)
    · rw [if_neg c_185] at hf
      refine lv_iconst (v := 0) hx hb dL_holds_44 (by decide) ?_
      refine lv_istore (lv' := [(4, .int 0), (3, .int 0), (0, .ref (L 0)), (1, .int x1), (2, .int x2)]) hx hb dL_holds_45 hl_181 (by decide) rfl (fun ls_186 hl_186 => ?_)
      clear hl_181
      exact wL_holds_47 hL F  fuel _ _ _ _ _  _ _ _ hO_184 (lv_sub hl_186 [2, 3, 4, 1, 0] rfl) hf
    · rw [if_pos c_185] at hf
      subst c_185
      refine lv_aload_n hx hb dL_holds_31 rfl (lv_at hl_181 1 rfl) ?_
      refine lv_iconst (v := 1) hx hb dL_holds_32 (by decide) ?_
      refine lv_iconst (v := 1) hx hb dL_holds_33 (by decide) ?_
      replace hf := zi_some hf
      obtain ⟨r_188, X_187, hc_187, hf⟩ := hf
      refine k_ai (va_runV (As := [.int 1, .int 1]) (rest := []) ⟨hx, hb, hml, hown, hts⟩ (mX8_ofPlayer l D L ac hL _ 1 1 _ _ hc_187) (cwV 2 hts gL_holds_X8_ofPlayer rfl rfl rfl (by decide +kernel) ⟨Nat.le_of_ble_eq_true rfl, Nat.le_of_ble_eq_true rfl⟩) (k_pv (j := 0) hK hN hO_184 (by decide) rfl rfl _) rfl rfl hl_181.1 rfl (lv_room (Nat.le_of_ble_eq_true rfl)) dL_holds_34 ⟨Nat.le_of_ble_eq_true rfl, Nat.le_of_ble_eq_true rfl⟩) hA hO_184 (fun H_189 locs_189 hO_189 => ?_)
      clear hO_184
      refine lv_if_ne (tgt := 44) hx hb dL_holds_37 (by decide) (fun c_190 => ?_) (fun c_190 => ?_)
      · rw [if_neg c_190] at hf
        refine lv_iconst (v := 0) hx hb dL_holds_44 (by decide) ?_
        refine lv_istore (lv' := [(4, .int 0), (3, .int 0), (0, .ref (L 0)), (1, .int x1), (2, .int x2)]) hx hb dL_holds_45 hl_181 (by decide) rfl (fun ls_191 hl_191 => ?_)
        clear hl_181
        exact wL_holds_47 hL F  fuel _ _ _ _ _  _ _ _ hO_189 (lv_sub hl_191 [2, 3, 4, 1, 0] rfl) hf
      · rw [if_pos c_190] at hf
        subst c_190
        refine lv_iconst (v := 1) hx hb dL_holds_40 (by decide) ?_
        refine lv_goto (tgt := 45) hx hb dL_holds_41 (by decide) ?_
        refine lv_istore (lv' := [(4, .int 1), (3, .int 0), (0, .ref (L 0)), (1, .int x1), (2, .int x2)]) hx hb dL_holds_45 hl_181 (by decide) rfl (fun ls_192 hl_192 => ?_)
        clear hl_181
        exact wL_holds_47 hL F  fuel _ _ _ _ _  _ _ _ hO_189 (lv_sub hl_192 [2, 3, 4, 1, 0] rfl) hf
def fL_holds   (X : XM) : Option (Int32 × XM) := zi (fX8_moves X) (fun r_194 X_193 => zi (fX8_count 3 X_193) (fun r_198 X_197 => if r_198 = 1 then fL_holds_20 fuel r_194 1 X_197 else fL_holds_20 fuel r_194 0 X_197))
set_option maxHeartbeats 4000000 in
set_option maxRecDepth 100000 in
theorem mL_holds (l : Launch) (D : va_G) (L : Nat → Nat) (ac : Nat → ClassId) (hL : LL L) (X : XM)  (r0 : Int32) (X0 : XM) (hf : fL_holds  X = some (r0, X0)) : Ci l yL_holds wsL_holds ({ frames := 67, cells := 0, slots := 0, locals := 2026 }) D L ac X [.ref (L 0)] r0 X0 := by
  refine Met.ofK (cc := cL_holds) (maxL := 15) (ret := (some .boolean)) (lv := [(0, .ref (L 0))]) (by decide +kernel) rfl (Nat.le_of_ble_eq_true rfl) rfl ?_
  intro p e s m below meth c F hO ls hl
  obtain ⟨hx, hb, hr, hts, hown, hlocks, hml, hK, hN⟩ := id F
  have hA : ∀ q, fr L q → fr L q := fun q h => h
  unfold fL_holds at hf
  refine lv_aload_n hx hb dL_holds_0 rfl (lv_at hl 0 rfl) ?_
  replace hf := zi_some hf
  obtain ⟨r_194, X_193, hc_193, hf⟩ := hf
  refine k_ai (va_runV (As := []) (rest := []) ⟨hx, hb, hml, hown, hts⟩ (mX8_moves l D L ac hL _  _ _ hc_193) (cwV 0 hts gL_holds_X8_moves rfl rfl rfl (by decide +kernel) ⟨Nat.le_of_ble_eq_true rfl, Nat.le_of_ble_eq_true rfl⟩) (k_pv (j := 0) hK hN hO (by decide) rfl rfl _) rfl rfl hl.1 rfl (lv_room (Nat.le_of_ble_eq_true rfl)) dL_holds_1 ⟨Nat.le_of_ble_eq_true rfl, Nat.le_of_ble_eq_true rfl⟩) hA hO (fun H_195 locs_195 hO_195 => ?_)
  clear hO
  refine lv_istore_n (lv' := [(1, .int r_194), (0, .ref (L 0))]) hx hb dL_holds_4 rfl hl (by decide) rfl (fun ls_196 hl_196 => ?_)
  clear hl
  refine lv_aload_n hx hb dL_holds_5 rfl (lv_at hl_196 1 rfl) ?_
  refine lv_iconst (v := 3) hx hb dL_holds_6 (by decide) ?_
  replace hf := zi_some hf
  obtain ⟨r_198, X_197, hc_197, hf⟩ := hf
  refine k_ai (va_runV (As := [.int 3]) (rest := []) ⟨hx, hb, hml, hown, hts⟩ (mX8_count l D L ac hL _ 3 _ _ hc_197) (cwV 1 hts gL_holds_X8_count rfl rfl rfl (by decide +kernel) ⟨Nat.le_of_ble_eq_true rfl, Nat.le_of_ble_eq_true rfl⟩) (k_pv (j := 0) hK hN hO_195 (by decide) rfl rfl _) rfl rfl hl_196.1 rfl (lv_room (Nat.le_of_ble_eq_true rfl)) dL_holds_7 ⟨Nat.le_of_ble_eq_true rfl, Nat.le_of_ble_eq_true rfl⟩) hA hO_195 (fun H_199 locs_199 hO_199 => ?_)
  clear hO_195
  refine lv_iconst (v := 1) hx hb dL_holds_10 (by decide) ?_
  refine lv_icmp_ne (tgt := 18) hx hb dL_holds_11 (by decide) (fun c_200 => ?_) (fun c_200 => ?_)
  · rw [if_neg c_200] at hf
    refine lv_iconst (v := 0) hx hb dL_holds_18 (by decide) ?_
    refine lv_istore_n (lv' := [(2, .int 0), (1, .int r_194), (0, .ref (L 0))]) hx hb dL_holds_19 rfl hl_196 (by decide) rfl (fun ls_201 hl_201 => ?_)
    clear hl_196
    exact wL_holds_20 hL F  fuel _ _ _  _ _ _ hO_199 (lv_sub hl_201 [2, 1, 0] rfl) hf
  · rw [if_pos c_200] at hf
    subst c_200
    refine lv_iconst (v := 1) hx hb dL_holds_14 (by decide) ?_
    refine lv_goto (tgt := 19) hx hb dL_holds_15 (by decide) ?_
    refine lv_istore_n (lv' := [(2, .int 1), (1, .int r_194), (0, .ref (L 0))]) hx hb dL_holds_19 rfl hl_196 (by decide) rfl (fun ls_202 hl_202 => ?_)
    clear hl_196
    exact wL_holds_20 hL F  fuel _ _ _  _ _ _ hO_199 (lv_sub hl_202 [2, 1, 0] rfl) hf
