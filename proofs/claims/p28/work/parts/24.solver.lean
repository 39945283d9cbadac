theorem in_X7_winsBy_X7 : ∀ w ∈ u_ws RX7 TX7 8, w ∈ wsX7_winsBy := by decide +kernel
theorem lk_X7_winsBy_f18 : Cond.fieldLink RX7 18 "PoisonPiles$Solver" "steps" "[I" ∈ wsX7_winsBy := by decide +kernel
def fX7_winsBy (Wc : Int32 → Int32 → XM → Option (Int32 × XM)) (a1 : Int32) (a2 : Int32) (a3 : Int32) (a4 : Int32) (X : XM) : Option (Int32 × XM) := if a3 = 0 then if a1 < 0 then some (0, X) else if a1 < 21 then zd a1 21 (zi (Wc (a2 - (X 16 (Int32.toNatClampNeg a1))) (a4 + 1) X) (fun r_6 X_5 => if r_6 = 0 then some (1, X_5) else some (0, X_5))) else some (0, X) else some (0, X)
set_option maxHeartbeats 4000000 in
set_option maxRecDepth 100000 in
theorem mX7_winsBy (l : Launch) (D : va_G) (L : Nat → Nat) (ac : Nat → ClassId) (hL : LL L) (d : Nat) (Wc : Int32 → Int32 → XM → Option (Int32 × XM)) (hW : ∀ (X : XM) (a1 a2 r : Int32) (Y : XM), Wc a1 a2 X = some (r, Y) → Ci l yX7_wonAt wsX7_wonAt (rmW d) D L ac X [.ref (L 6), .int a1, .int a2] r Y) (X : XM) (a1 : Int32) (a2 : Int32) (a3 : Int32) (a4 : Int32) (r0 : Int32) (X0 : XM) (hf : fX7_winsBy Wc a1 a2 a3 a4 X = some (r0, X0)) : Ci l yX7_winsBy wsX7_winsBy (rmB d) D L ac X [.ref (L 6), .int a1, .int a2, .int a3, .int a4] r0 X0 := by
  refine Met.ofK (cc := cX7_winsBy) (maxL := 5) (ret := (some .boolean)) (lv := [(0, .ref (L 6)), (1, .int a1), (2, .int a2), (3, .int a3), (4, .int a4)]) (by decide +kernel) rfl (Nat.le_of_ble_eq_true rfl) rfl ?_
  intro p e s m below meth c F hO ls hl
  obtain ⟨hx, hb, hr, hts, hown, hlocks, hml, hK, hN⟩ := id F
  have hA : ∀ q, fr L q → fr L q := fun q h => h
  unfold fX7_winsBy at hf
  refine lv_iload_n hx hb dX7_winsBy_0 rfl (lv_at hl 3 rfl) ?_
  refine lv_if_ne (tgt := 17) hx hb dX7_winsBy_1 (by decide) (fun c_1 => ?_) (fun c_1 => ?_)
  · rw [if_neg c_1] at hf
    refine lv_iconst (v := 0) hx hb dX7_winsBy_17 (by decide) ?_
    obtain ⟨rfl, rfl⟩ := Prod.mk.inj (Option.some.inj hf)
    exact e_n hx hb hr (bo_n (by decide)) hK hN hO hlocks dX7_winsBy_18
  · rw [if_pos c_1] at hf
    subst c_1
    refine lv_iload_n hx hb dX7_winsBy_4 rfl (lv_at hl 1 rfl) ?_
    refine lv_if_lt (tgt := 17) hx hb dX7_winsBy_5 (by decide) (fun c_2 => ?_) (fun c_2 => ?_)
    · rw [if_pos c_2] at hf
      refine lv_iconst (v := 0) hx hb dX7_winsBy_17 (by decide) ?_
      obtain ⟨rfl, rfl⟩ := Prod.mk.inj (Option.some.inj hf)
      exact e_n hx hb hr (bo_n (by decide)) hK hN hO hlocks dX7_winsBy_18
    · rw [if_neg c_2] at hf
      refine lv_iload_n hx hb dX7_winsBy_8 rfl (lv_at hl 1 rfl) ?_
      refine lv_aload_n hx hb dX7_winsBy_9 rfl (lv_at hl 0 rfl) ?_
      refine k_get (k := 2) (v := .ref (L 9)) hx hb hts in_X7_winsBy_X7 hown hK hO (by decide) rfl rfl (by decide) lk_X7_winsBy_f18 rfl dX7_winsBy_10 ?_
      refine k_alen (v := 21) (t := 0) hx hb hK hO (by decide) rfl rfl rfl dX7_winsBy_13 ?_
      refine lv_icmp_lt (tgt := 19) hx hb dX7_winsBy_14 (by decide) (fun c_3 => ?_) (fun c_3 => ?_)
      · rw [if_pos c_3] at hf
        refine lv_aload_n hx hb dX7_winsBy_19 rfl (lv_at hl 0 rfl) ?_
        refine lv_iload_n hx hb dX7_winsBy_20 rfl (lv_at hl 2 rfl) ?_
        refine lv_aload_n hx hb dX7_winsBy_21 rfl (lv_at hl 0 rfl) ?_
        refine k_get (k := 2) (v := .ref (L 9)) hx hb hts in_X7_winsBy_X7 hown hK hO (by decide) rfl rfl (by decide) lk_X7_winsBy_f18 rfl dX7_winsBy_22 ?_
        refine lv_iload_n hx hb dX7_winsBy_25 rfl (lv_at hl 1 rfl) ?_
        replace hf := zd_some hf
        obtain ⟨hi_4, hf⟩ := hf
        refine k_iald hx hb hK hO (by decide) (fun _ => rfl) hi_4 dX7_winsBy_26 ?_
        refine lv_isub hx hb dX7_winsBy_27 ?_
        refine lv_iload hx hb dX7_winsBy_28 (lv_at hl 4 rfl) ?_
        refine lv_iconst (v := 1) hx hb dX7_winsBy_30 (by decide) ?_
        refine lv_iadd hx hb dX7_winsBy_31 ?_
        replace hf := zi_some hf
        obtain ⟨r_6, X_5, hc_5, hf⟩ := hf
        refine k_ai (va_runV (As := [.int (a2 - (X 16 (Int32.toNatClampNeg a1))), .int (a4 + 1)]) (rest := []) ⟨hx, hb, hml, hown, hts⟩ (hW _ (a2 - (X 16 (Int32.toNatClampNeg a1))) (a4 + 1) _ _ hc_5) (cwV 2 hts gX7_winsBy_X7_wonAt rfl rfl rfl (by decide +kernel) ⟨by show 2 * d + 2 + 1 ≤ 2 * d + 3; omega, by show 8 + (8 + 11) + (60 * d + 100) ≤ 60 * d + 130; omega⟩) (k_pv (j := 6) hK hN hO (by decide) rfl rfl _) rfl rfl hl.1 rfl (lv_room (Nat.le_of_ble_eq_true rfl)) dX7_winsBy_32 ⟨Nat.le_of_ble_eq_true rfl, Nat.le_of_ble_eq_true rfl⟩) hA hO (fun H_7 locs_7 hO_7 => ?_)
        clear hO
        refine lv_if_ne (tgt := 42) hx hb dX7_winsBy_35 (by decide) (fun c_8 => ?_) (fun c_8 => ?_)
        · rw [if_neg c_8] at hf
          refine lv_iconst (v := 0) hx hb dX7_winsBy_42 (by decide) ?_
          obtain ⟨rfl, rfl⟩ := Prod.mk.inj (Option.some.inj hf)
          exact e_n hx hb hr (bo_n (by decide)) hK hN hO_7 hlocks dX7_winsBy_43
        · rw [if_pos c_8] at hf
          subst c_8
          refine lv_iconst (v := 1) hx hb dX7_winsBy_38 (by decide) ?_
          refine lv_goto (tgt := 43) hx hb dX7_winsBy_39 (by decide) ?_
          obtain ⟨rfl, rfl⟩ := Prod.mk.inj (Option.some.inj hf)
          exact e_n hx hb hr (bo_n (by decide)) hK hN hO_7 hlocks dX7_winsBy_43
      · rw [if_neg c_3] at hf
        refine lv_iconst (v := 0) hx hb dX7_winsBy_17 (by decide) ?_
        obtain ⟨rfl, rfl⟩ := Prod.mk.inj (Option.some.inj hf)
        exact e_n hx hb hr (bo_n (by decide)) hK hN hO hlocks dX7_winsBy_18
theorem in_X7_wonAt_X7 : ∀ w ∈ u_ws RX7 TX7 8, w ∈ wsX7_wonAt := by decide +kernel
theorem lk_X7_wonAt_c24 : Cond.constant RX7 24 (-100000) ∈ wsX7_wonAt := by decide +kernel
theorem lk_X7_wonAt_f15 : Cond.fieldLink RX7 15 "PoisonPiles$Solver" "results" "[I" ∈ wsX7_wonAt := by decide +kernel
theorem lk_X7_wonAt_iX8 : Cond.initialized RX8 ∈ wsX7_wonAt := by decide +kernel
theorem lk_X7_wonAt_sX8_isIn : Cond.static yX8_isIn ∈ wsX7_wonAt := by decide +kernel
def fX7_wonAt_46 (Wc : Int32 → Int32 → XM → Option (Int32 × XM))  : Nat → Int32 → Int32 → Int32 → Int32 → Int32 → Int32 → Int32 → XM → Option (Int32 × XM)
  | 0, _, _, _, _, _, _, _, _ => none
  | n + 1, x1, x2, x3, x4, x5, x6, x7, X => if 20 < x7 then zd x1 23328 (zl (xup X 15 (Int32.toNatClampNeg x1) x6) (fun X_3 => zd x1 23328 (if (X_3 15 (Int32.toNatClampNeg x1)) = 1 then some (1, X_3) else some (0, X_3)))) else if x6 = 0 then zi (fX8_isIn x3 x7 X) (fun r_14 X_13 => if r_14 = 0 then fX7_wonAt_46 Wc n x1 x2 x3 x4 x5 0 (x7 + 1) X_13 else zi (fX8_isIn x4 x7 X_13) (fun r_19 X_18 => zi (fX7_winsBy Wc x7 x5 r_19 x2 X_18) (fun r_22 X_21 => if r_22 = 0 then fX7_wonAt_46 Wc n x1 x2 x3 x4 x5 0 (x7 + 1) X_21 else fX7_wonAt_46 Wc n x1 x2 x3 x4 x5 1 (x7 + 1) X_21))) else zd x1 23328 (zl (xup X 15 (Int32.toNatClampNeg x1) x6) (fun X_9 => zd x1 23328 (if (X_9 15 (Int32.toNatClampNeg x1)) = 1 then some (1, X_9) else some (0, X_9))))
set_option maxHeartbeats 4000000 in
set_option maxRecDepth 100000 in
theorem wX7_wonAt_46 {p : Program} {l : Launch} {e : Env} {s : State} {m : MethodId} {args : Array Value} {below : List Frame} {meth : Method} {c : Code} {D : va_G} {L : Nat → Nat} {ac : Nat → ClassId} {r0 : Int32} {X0 : XM} (hL : LL L) (d : Nat) (Wc : Int32 → Int32 → XM → Option (Int32 × XM)) (hW : ∀ (X : XM) (a1 a2 r : Int32) (Y : XM), Wc a1 a2 X = some (r, Y) → Ci l yX7_wonAt wsX7_wonAt (rmW d) D L ac X [.ref (L 6), .int a1, .int a2] r Y) (F : Fx p s m args meth c cX7_wonAt 8 (some .boolean) wsX7_wonAt yX7_wonAt.cls D ac) : ∀ (n : Nat) (x1 : Int32) (x2 : Int32) (x3 : Int32) (x4 : Int32) (x5 : Int32) (x6 : Int32) (x7 : Int32) (X : XM) (H : Heap) (locs : List Loc) (ls : Array Slot), Oh D L ac X (fr L) s.heap H locs → lv_has ls 8 [(0, .ref (L 6)), (1, .int x1), (2, .int x2), (3, .int x3), (4, .int x4), (5, .int x5), (6, .int x6), (7, .int x7)] → fX7_wonAt_46 Wc n x1 x2 x3 x4 x5 x6 x7 X = some (r0, X0) → W p l e (headSpec wsX7_wonAt (rmW (d + 1))).room s m args below meth c H locs 0 0 (MQ below (va_Qi (fun (r : Int32) (Y : XM) => r = r0 ∧ Y = X0) (fun (Y : XM) t => St D L ac Y t) (fr L)) args s 0 0 (fr L)) (F0 m 46 ls []) := by
  obtain ⟨hx, hb, hr, hts, hown, hlocks, hml, hK, hN⟩ := id F
  have hA : ∀ q, fr L q → fr L q := fun q h => h
  intro n
  induction n with
  | zero => intro x1 x2 x3 x4 x5 x6 x7 X H locs ls hO hl hf; simp [fX7_wonAt_46] at hf
  | succ n ih =>
    intro x1 x2 x3 x4 x5 x6 x7 X H locs ls hO hl hf
    rw [fX7_wonAt_46] at hf
    refine lv_iload hx hb dX7_wonAt_46 (lv_at hl 7 rfl) ?_
    refine lv_bipush (v := 20) hx hb dX7_wonAt_48 (by decide) ?_
    refine lv_icmp_gt (tgt := 95) hx hb dX7_wonAt_50 (by decide) (fun c_1 => ?_) (fun c_1 => ?_)
    · rw [if_pos c_1] at hf
      refine lv_aload_n hx hb dX7_wonAt_95 rfl (lv_at hl 0 rfl) ?_
      refine k_get (k := 1) (v := .ref (L 8)) hx hb hts in_X7_wonAt_X7 hown hK hO (by decide) rfl rfl (by decide) lk_X7_wonAt_f15 rfl dX7_wonAt_96 ?_
      refine lv_iload_n hx hb dX7_wonAt_99 rfl (lv_at hl 1 rfl) ?_
      refine lv_iload hx hb dX7_wonAt_100 (lv_at hl 6 rfl) ?_
      replace hf := zd_some hf
      obtain ⟨hi_2, hf⟩ := hf
      refine k_iast hx hb hK hL hA hO (by decide) (by decide) rfl (fun _ => rfl) hi_2 dX7_wonAt_102 (fun H_4 locs_4 hO_4 => ?_)
      replace hf := zl_some hf
      obtain ⟨X_3, hX_3, hf⟩ := hf
      have hQ_4 := zo_eq hX_3 hO_4
      clear hO_4 hO
      refine lv_aload_n hx hb dX7_wonAt_103 rfl (lv_at hl 0 rfl) ?_
      refine k_get (k := 1) (v := .ref (L 8)) hx hb hts in_X7_wonAt_X7 hown hK hQ_4 (by decide) rfl rfl (by decide) lk_X7_wonAt_f15 rfl dX7_wonAt_104 ?_
      refine lv_iload_n hx hb dX7_wonAt_107 rfl (lv_at hl 1 rfl) ?_
      replace hf := zd_some hf
      obtain ⟨hi_5, hf⟩ := hf
      refine k_iald hx hb hK hQ_4 (by decide) (fun _ => rfl) hi_5 dX7_wonAt_108 ?_
      refine lv_iconst (v := 1) hx hb dX7_wonAt_109 (by decide) ?_
      refine lv_icmp_ne (tgt := 117) hx hb dX7_wonAt_110 (by decide) (fun c_6 => ?_) (fun c_6 => ?_)
      · rw [if_neg c_6] at hf
        refine lv_iconst (v := 0) hx hb dX7_wonAt_117 (by decide) ?_
        obtain ⟨rfl, rfl⟩ := Prod.mk.inj (Option.some.inj hf)
        exact e_n hx hb hr (bo_n (by decide)) hK hN hQ_4 hlocks dX7_wonAt_118
      · rw [if_pos c_6] at hf
        refine lv_iconst (v := 1) hx hb dX7_wonAt_113 (by decide) ?_
        refine lv_goto (tgt := 118) hx hb dX7_wonAt_114 (by decide) ?_
        obtain ⟨rfl, rfl⟩ := Prod.mk.inj (Option.some.inj hf)
        exact e_n hx hb hr (bo_n (by decide)) hK hN hQ_4 hlocks dX7_wonAt_118
    · rw [if_neg c_1] at hf
      refine lv_iload hx hb dX7_wonAt_53 (lv_at hl 6 rfl) ?_
      refine lv_if_ne (tgt := 95) hx hb dX7_wonAt_55 (by decide) (fun c_7 => ?_) (fun c_7 => ?_)
      · rw [if_neg c_7] at hf
        refine lv_aload_n hx hb dX7_wonAt_95 rfl (lv_at hl 0 rfl) ?_
        refine k_get (k := 1) (v := .ref (L 8)) hx hb hts in_X7_wonAt_X7 hown hK hO (by decide) rfl rfl (by decide) lk_X7_wonAt_f15 rfl dX7_wonAt_96 ?_
        refine lv_iload_n hx hb dX7_wonAt_99 rfl (lv_at hl 1 rfl) ?_
        refine lv_iload hx hb dX7_wonAt_100 (lv_at hl 6 rfl) ?_
        replace hf := zd_some hf
        obtain ⟨hi_8, hf⟩ := hf
        refine k_iast hx hb hK hL hA hO (by decide) (by decide) rfl (fun _ => rfl) hi_8 dX7_wonAt_102 (fun H_10 locs_10 hO_10 => ?_)
        replace hf := zl_some hf
        obtain ⟨X_9, hX_9, hf⟩ := hf
        have hQ_10 := zo_eq hX_9 hO_10
        clear hO_10 hO
        refine lv_aload_n hx hb dX7_wonAt_103 rfl (lv_at hl 0 rfl) ?_
        refine k_get (k := 1) (v := .ref (L 8)) hx hb hts in_X7_wonAt_X7 hown hK hQ_10 (by decide) rfl rfl (by decide) lk_X7_wonAt_f15 rfl dX7_wonAt_104 ?_
        refine lv_iload_n hx hb dX7_wonAt_107 rfl (lv_at hl 1 rfl) ?_
        replace hf := zd_some hf
        obtain ⟨hi_11, hf⟩ := hf
        refine k_iald hx hb hK hQ_10 (by decide) (fun _ => rfl) hi_11 dX7_wonAt_108 ?_
        refine lv_iconst (v := 1) hx hb dX7_wonAt_109 (by decide) ?_
        refine lv_icmp_ne (tgt := 117) hx hb dX7_wonAt_110 (by decide) (fun c_12 => ?_) (fun c_12 => ?_)
        · rw [if_neg c_12] at hf
          refine lv_iconst (v := 0) hx hb dX7_wonAt_117 (by decide) ?_
          obtain ⟨rfl, rfl⟩ := Prod.mk.inj (Option.some.inj hf)
          exact e_n hx hb hr (bo_n (by decide)) hK hN hQ_10 hlocks dX7_wonAt_118
        · rw [if_pos c_12] at hf
          refine lv_iconst (v := 1) hx hb dX7_wonAt_113 (by decide) ?_
          refine lv_goto (tgt := 118) hx hb dX7_wonAt_114 (by decide) ?_
          obtain ⟨rfl, rfl⟩ := Prod.mk.inj (Option.some.inj hf)
          exact e_n hx hb hr (bo_n (by decide)) hK hN hQ_10 hlocks dX7_wonAt_118
      · rw [if_pos c_7] at hf
        subst c_7
        refine lv_iload_n hx hb dX7_wonAt_58 rfl (lv_at hl 3 rfl) ?_
        refine lv_iload hx hb dX7_wonAt_59 (lv_at hl 7 rfl) ?_
        replace hf := zi_some hf
        obtain ⟨r_14, X_13, hc_13, hf⟩ := hf
        refine k_ai (va_runSN (As := [.int x3, .int x7]) (rest := []) ⟨hx, hb, hml, hown, hts⟩ (mX8_isIn l D L ac hL _ x3 x7 _ _ hc_13) ⟨va_cnB 2 hts gX7_wonAt_X8_isIn_n47 rfl rfl rfl (hN _ nx_method_X7_47) (hts _ lk_X7_wonAt_iX8) (by decide +kernel) ⟨by show 0 + 1 ≤ 2 * (d + 1) + 2; omega, by show 8 + (2 + 11) + 0 ≤ 60 * (d + 1) + 100; omega⟩, hts _ lk_X7_wonAt_sX8_isIn, trivial⟩ (k_ps hK hN hO _) rfl rfl hl.1 rfl (lv_room (Nat.le_of_ble_eq_true rfl)) dX7_wonAt_61 ⟨Nat.le_of_ble_eq_true rfl, Nat.le_of_ble_eq_true rfl⟩) hA hO (fun H_15 locs_15 hO_15 => ?_)
        clear hO
        refine lv_if_eq (tgt := 89) hx hb dX7_wonAt_64 (by decide) (fun c_16 => ?_) (fun c_16 => ?_)
        · rw [if_pos c_16] at hf
          subst c_16
          refine lv_iinc (v := x7 + 1) (lv' := [(7, .int (x7 + 1)), (0, .ref (L 6)), (1, .int x1), (2, .int x2), (3, .int x3), (4, .int x4), (5, .int x5), (6, .int 0)]) hx hb dX7_wonAt_89 hl (k := 7) rfl rfl (by decide) rfl (fun ls_17 hl_17 => ?_)
          clear hl
          refine lv_goto (tgt := 46) hx hb dX7_wonAt_92 (by decide) ?_
          exact ih _ _ _ _ _ _ _ _  _ _ _ hO_15 (lv_sub hl_17 [1, 2, 3, 4, 5, 6, 7, 0] rfl) hf
        · rw [if_neg c_16] at hf
          refine lv_aload_n hx hb dX7_wonAt_67 rfl (lv_at hl 0 rfl) ?_
          refine lv_iload hx hb dX7_wonAt_68 (lv_at hl 7 rfl) ?_
          refine lv_iload hx hb dX7_wonAt_70 (lv_at hl 5 rfl) ?_
          refine lv_iload hx hb dX7_wonAt_72 (lv_at hl 4 rfl) ?_
          refine lv_iload hx hb dX7_wonAt_74 (lv_at hl 7 rfl) ?_
          replace hf := zi_some hf
          obtain ⟨r_19, X_18, hc_18, hf⟩ := hf
          refine k_ai (va_runSN (As := [.int x4, .int x7]) (rest := [.int x5, .int x7, .ref (L 6)]) ⟨hx, hb, hml, hown, hts⟩ (mX8_isIn l D L ac hL _ x4 x7 _ _ hc_18) ⟨va_cnB 2 hts gX7_wonAt_X8_isIn_n47 rfl rfl rfl (hN _ nx_method_X7_47) (hts _ lk_X7_wonAt_iX8) (by decide +kernel) ⟨by show 0 + 1 ≤ 2 * (d + 1) + 2; omega, by show 8 + (2 + 11) + 0 ≤ 60 * (d + 1) + 100; omega⟩, hts _ lk_X7_wonAt_sX8_isIn, trivial⟩ (k_ps hK hN hO_15 _) rfl rfl hl.1 rfl (lv_room (Nat.le_of_ble_eq_true rfl)) dX7_wonAt_76 ⟨Nat.le_of_ble_eq_true rfl, Nat.le_of_ble_eq_true rfl⟩) hA hO_15 (fun H_20 locs_20 hO_20 => ?_)
          clear hO_15
          refine lv_iload_n hx hb dX7_wonAt_79 rfl (lv_at hl 2 rfl) ?_
          replace hf := zi_some hf
          obtain ⟨r_22, X_21, hc_21, hf⟩ := hf
          refine k_ai (va_runV (As := [.int x7, .int x5, .int r_19, .int x2]) (rest := []) ⟨hx, hb, hml, hown, hts⟩ ((mX7_winsBy l D L ac hL d Wc hW) _ x7 x5 r_19 x2 _ _ hc_21) (cwV 4 hts gX7_wonAt_X7_winsBy rfl rfl rfl (by decide +kernel) ⟨by show 2 * d + 3 + 1 ≤ 2 * (d + 1) + 2; omega, by show 8 + (5 + 11) + (60 * d + 130) ≤ 60 * (d + 1) + 100; omega⟩) (k_pv (j := 6) hK hN hO_20 (by decide) rfl rfl _) rfl rfl hl.1 rfl (lv_room (Nat.le_of_ble_eq_true rfl)) dX7_wonAt_80 ⟨Nat.le_of_ble_eq_true rfl, Nat.le_of_ble_eq_true rfl⟩) hA hO_20 (fun H_23 locs_23 hO_23 => ?_)
          clear hO_20
          refine lv_if_eq (tgt := 89) hx hb dX7_wonAt_83 (by decide) (fun c_24 => ?_) (fun c_24 => ?_)
          · rw [if_pos c_24] at hf
            subst c_24
            refine lv_iinc (v := x7 + 1) (lv' := [(7, .int (x7 + 1)), (0, .ref (L 6)), (1, .int x1), (2, .int x2), (3, .int x3), (4, .int x4), (5, .int x5), (6, .int 0)]) hx hb dX7_wonAt_89 hl (k := 7) rfl rfl (by decide) rfl (fun ls_25 hl_25 => ?_)
            clear hl
            refine lv_goto (tgt := 46) hx hb dX7_wonAt_92 (by decide) ?_
            exact ih _ _ _ _ _ _ _ _  _ _ _ hO_23 (lv_sub hl_25 [1, 2, 3, 4, 5, 6, 7, 0] rfl) hf
          · rw [if_neg c_24] at hf
            refine lv_iconst (v := 1) hx hb dX7_wonAt_86 (by decide) ?_
            refine lv_istore (lv' := [(6, .int 1), (0, .ref (L 6)), (1, .int x1), (2, .int x2), (3, .int x3), (4, .int x4), (5, .int x5), (7, .int x7)]) hx hb dX7_wonAt_87 hl (by decide) rfl (fun ls_26 hl_26 => ?_)
            clear hl
            refine lv_iinc (v := x7 + 1) (lv' := [(7, .int (x7 + 1)), (6, .int 1), (0, .ref (L 6)), (1, .int x1), (2, .int x2), (3, .int x3), (4, .int x4), (5, .int x5)]) hx hb dX7_wonAt_89 hl_26 (k := 7) rfl rfl (by decide) rfl (fun ls_27 hl_27 => ?_)
            clear hl_26
            refine lv_goto (tgt := 46) hx hb dX7_wonAt_92 (by decide) ?_
            exact ih _ _ _ _ _ _ _ _  _ _ _ hO_23 (lv_sub hl_27 [2, 3, 4, 5, 6, 7, 1, 0] rfl) hf
def fX7_wonAtB (Wc : Int32 → Int32 → XM → Option (Int32 × XM)) (a1 : Int32) (a2 : Int32) (X : XM) : Option (Int32 × XM) := zi (fX7_isSpot a1 a2 X) (fun r_29 X_28 => if r_29 = 0 then some (0, X_28) else zd a1 23328 (if (X_28 15 (Int32.toNatClampNeg a1)) = (-100000) then zi (fX7_movesAt a1 X_28) (fun r_37 X_36 => zi (fX7_poisonAt a1 X_36) (fun r_41 X_40 => zi (fX7_turned a1 X_40) (fun r_45 X_44 => fX7_wonAt_46 Wc fuel a1 a2 r_37 r_41 r_45 0 0 X_44))) else zd a1 23328 (if (X_28 15 (Int32.toNatClampNeg a1)) = 1 then some (1, X_28) else some (0, X_28))))
set_option maxHeartbeats 4000000 in
set_option maxRecDepth 100000 in
theorem mX7_wonAtB (l : Launch) (D : va_G) (L : Nat → Nat) (ac : Nat → ClassId) (hL : LL L) (d : Nat) (Wc : Int32 → Int32 → XM → Option (Int32 × XM)) (hW : ∀ (X : XM) (a1 a2 r : Int32) (Y : XM), Wc a1 a2 X = some (r, Y) → Ci l yX7_wonAt wsX7_wonAt (rmW d) D L ac X [.ref (L 6), .int a1, .int a2] r Y) (X : XM) (a1 : Int32) (a2 : Int32) (r0 : Int32) (X0 : XM) (hf : fX7_wonAtB Wc a1 a2 X = some (r0, X0)) : Ci l yX7_wonAt wsX7_wonAt (rmW (d + 1)) D L ac X [.ref (L 6), .int a1, .int a2] r0 X0 := by
  refine Met.ofK (cc := cX7_wonAt) (maxL := 8) (ret := (some .boolean)) (lv := [(0, .ref (L 6)), (1, .int a1), (2, .int a2)]) (by decide +kernel) rfl (Nat.le_of_ble_eq_true rfl) rfl ?_
  intro p e s m below meth c F hO ls hl
  obtain ⟨hx, hb, hr, hts, hown, hlocks, hml, hK, hN⟩ := id F
  have hA : ∀ q, fr L q → fr L q := fun q h => h
  unfold fX7_wonAtB at hf
  refine lv_iload_n hx hb dX7_wonAt_0 rfl (lv_at hl 1 rfl) ?_
  refine lv_iload_n hx hb dX7_wonAt_1 rfl (lv_at hl 2 rfl) ?_
  replace hf := zi_some hf
  obtain ⟨r_29, X_28, hc_28, hf⟩ := hf
  refine k_ai (va_runS (As := [.int a1, .int a2]) (rest := []) ⟨hx, hb, hml, hown, hts⟩ (mX7_isSpot l D L ac hL _ a1 a2 _ _ hc_28) (va_cwS 2 hts gX7_wonAt_X7_isSpot rfl rfl rfl (by decide +kernel) ⟨by show 0 + 1 ≤ 2 * (d + 1) + 2; omega, by show 8 + (2 + 11) + 0 ≤ 60 * (d + 1) + 100; omega⟩) (k_ps hK hN hO _) rfl rfl hl.1 rfl (lv_room (Nat.le_of_ble_eq_true rfl)) dX7_wonAt_2 ⟨Nat.le_of_ble_eq_true rfl, Nat.le_of_ble_eq_true rfl⟩) hA hO (fun H_30 locs_30 hO_30 => ?_)
  clear hO
  refine lv_if_ne (tgt := 10) hx hb dX7_wonAt_5 (by decide) (fun c_31 => ?_) (fun c_31 => ?_)
  · rw [if_neg c_31] at hf
    refine lv_aload_n hx hb dX7_wonAt_10 rfl (lv_at hl 0 rfl) ?_
    refine k_get (k := 1) (v := .ref (L 8)) hx hb hts in_X7_wonAt_X7 hown hK hO_30 (by decide) rfl rfl (by decide) lk_X7_wonAt_f15 rfl dX7_wonAt_11 ?_
    refine lv_iload_n hx hb dX7_wonAt_14 rfl (lv_at hl 1 rfl) ?_
    replace hf := zd_some hf
    obtain ⟨hi_32, hf⟩ := hf
    refine k_iald hx hb hK hO_30 (by decide) (fun _ => rfl) hi_32 dX7_wonAt_15 ?_
    refine lv_ldc (v := (-100000)) hx hb hown (hts _ lk_X7_wonAt_c24) dX7_wonAt_16 ?_
    refine lv_icmp_ne (tgt := 103) hx hb dX7_wonAt_18 (by decide) (fun c_33 => ?_) (fun c_33 => ?_)
    · rw [if_neg c_33] at hf
      refine lv_aload_n hx hb dX7_wonAt_103 rfl (lv_at hl 0 rfl) ?_
      refine k_get (k := 1) (v := .ref (L 8)) hx hb hts in_X7_wonAt_X7 hown hK hO_30 (by decide) rfl rfl (by decide) lk_X7_wonAt_f15 rfl dX7_wonAt_104 ?_
      refine lv_iload_n hx hb dX7_wonAt_107 rfl (lv_at hl 1 rfl) ?_
      replace hf := zd_some hf
      obtain ⟨hi_34, hf⟩ := hf
      refine k_iald hx hb hK hO_30 (by decide) (fun _ => rfl) hi_34 dX7_wonAt_108 ?_
      refine lv_iconst (v := 1) hx hb dX7_wonAt_109 (by decide) ?_
      refine lv_icmp_ne (tgt := 117) hx hb dX7_wonAt_110 (by decide) (fun c_35 => ?_) (fun c_35 => ?_)
      · rw [if_neg c_35] at hf
        refine lv_iconst (v := 0) hx hb dX7_wonAt_117 (by decide) ?_
        obtain ⟨rfl, rfl⟩ := Prod.mk.inj (Option.some.inj hf)
        exact e_n hx hb hr (bo_n (by decide)) hK hN hO_30 hlocks dX7_wonAt_118
      · rw [if_pos c_35] at hf
        refine lv_iconst (v := 1) hx hb dX7_wonAt_113 (by decide) ?_
        refine lv_goto (tgt := 118) hx hb dX7_wonAt_114 (by decide) ?_
        obtain ⟨rfl, rfl⟩ := Prod.mk.inj (Option.some.inj hf)
        exact e_n hx hb hr (bo_n (by decide)) hK hN hO_30 hlocks dX7_wonAt_118
    · rw [if_pos c_33] at hf
      refine lv_aload_n hx hb dX7_wonAt_21 rfl (lv_at hl 0 rfl) ?_
      refine lv_iload_n hx hb dX7_wonAt_22 rfl (lv_at hl 1 rfl) ?_
      replace hf := zi_some hf
      obtain ⟨r_37, X_36, hc_36, hf⟩ := hf
      refine k_ai (va_runV (As := [.int a1]) (rest := []) ⟨hx, hb, hml, hown, hts⟩ (mX7_movesAt l D L ac hL _ a1 _ _ hc_36) (cwV 1 hts gX7_wonAt_X7_movesAt rfl rfl rfl (by decide +kernel) ⟨by show 1 + 1 ≤ 2 * (d + 1) + 2; omega, by show 8 + (7 + 11) + 22 ≤ 60 * (d + 1) + 100; omega⟩) (k_pv (j := 6) hK hN hO_30 (by decide) rfl rfl _) rfl rfl hl.1 rfl (lv_room (Nat.le_of_ble_eq_true rfl)) dX7_wonAt_23 ⟨Nat.le_of_ble_eq_true rfl, Nat.le_of_ble_eq_true rfl⟩) hA hO_30 (fun H_38 locs_38 hO_38 => ?_)
      clear hO_30
      refine lv_istore_n (lv' := [(3, .int r_37), (0, .ref (L 6)), (1, .int a1), (2, .int a2)]) hx hb dX7_wonAt_26 rfl hl (by decide) rfl (fun ls_39 hl_39 => ?_)
      clear hl
      refine lv_aload_n hx hb dX7_wonAt_27 rfl (lv_at hl_39 1 rfl) ?_
      refine lv_iload_n hx hb dX7_wonAt_28 rfl (lv_at hl_39 2 rfl) ?_
      replace hf := zi_some hf
      obtain ⟨r_41, X_40, hc_40, hf⟩ := hf
      refine k_ai (va_runV (As := [.int a1]) (rest := []) ⟨hx, hb, hml, hown, hts⟩ (mX7_poisonAt l D L ac hL _ a1 _ _ hc_40) (cwV 1 hts gX7_wonAt_X7_poisonAt rfl rfl rfl (by decide +kernel) ⟨by show 1 + 1 ≤ 2 * (d + 1) + 2; omega, by show 8 + (6 + 11) + 21 ≤ 60 * (d + 1) + 100; omega⟩) (k_pv (j := 6) hK hN hO_38 (by decide) rfl rfl _) rfl rfl hl_39.1 rfl (lv_room (Nat.le_of_ble_eq_true rfl)) dX7_wonAt_29 ⟨Nat.le_of_ble_eq_true rfl, Nat.le_of_ble_eq_true rfl⟩) hA hO_38 (fun H_42 locs_42 hO_42 => ?_)
      clear hO_38
      refine lv_istore (lv' := [(4, .int r_41), (3, .int r_37), (0, .ref (L 6)), (1, .int a1), (2, .int a2)]) hx hb dX7_wonAt_32 hl_39 (by decide) rfl (fun ls_43 hl_43 => ?_)
      clear hl_39
      refine lv_iload_n hx hb dX7_wonAt_34 rfl (lv_at hl_43 3 rfl) ?_
      replace hf := zi_some hf
      obtain ⟨r_45, X_44, hc_44, hf⟩ := hf
      refine k_ai (va_runS (As := [.int a1]) (rest := []) ⟨hx, hb, hml, hown, hts⟩ (mX7_turned l D L ac hL _ a1 _ _ hc_44) (va_cwS 1 hts gX7_wonAt_X7_turned rfl rfl rfl (by decide +kernel) ⟨by show 0 + 1 ≤ 2 * (d + 1) + 2; omega, by show 8 + (3 + 11) + 0 ≤ 60 * (d + 1) + 100; omega⟩) (k_ps hK hN hO_42 _) rfl rfl hl_43.1 rfl (lv_room (Nat.le_of_ble_eq_true rfl)) dX7_wonAt_35 ⟨Nat.le_of_ble_eq_true rfl, Nat.le_of_ble_eq_true rfl⟩) hA hO_42 (fun H_46 locs_46 hO_46 => ?_)
      clear hO_42
      refine lv_istore (lv' := [(5, .int r_45), (4, .int r_41), (3, .int r_37), (0, .ref (L 6)), (1, .int a1), (2, .int a2)]) hx hb dX7_wonAt_38 hl_43 (by decide) rfl (fun ls_47 hl_47 => ?_)
      clear hl_43
      refine lv_iconst (v := 0) hx hb dX7_wonAt_40 (by decide) ?_
      refine lv_istore (lv' := [(6, .int 0), (5, .int r_45), (4, .int r_41), (3, .int r_37), (0, .ref (L 6)), (1, .int a1), (2, .int a2)]) hx hb dX7_wonAt_41 hl_47 (by decide) rfl (fun ls_48 hl_48 => ?_)
      clear hl_47
      refine lv_iconst (v := 0) hx hb dX7_wonAt_43 (by decide) ?_
      refine lv_istore (lv' := [(7, .int 0), (6, .int 0), (5, .int r_45), (4, .int r_41), (3, .int r_37), (0, .ref (L 6)), (1, .int a1), (2, .int a2)]) hx hb dX7_wonAt_44 hl_48 (by decide) rfl (fun ls_49 hl_49 => ?_)
      clear hl_48
      exact wX7_wonAt_46 hL d Wc hW F  fuel _ _ _ _ _ _ _ _  _ _ _ hO_46 (lv_sub hl_49 [5, 6, 7, 4, 3, 2, 1, 0] rfl) hf
  · rw [if_pos c_31] at hf
    subst c_31
    refine lv_iconst (v := 0) hx hb dX7_wonAt_8 (by decide) ?_
    obtain ⟨rfl, rfl⟩ := Prod.mk.inj (Option.some.inj hf)
    exact e_n hx hb hr (bo_n (by decide)) hK hN hO_30 hlocks dX7_wonAt_9
def fX7_wonAt : Nat → Int32 → Int32 → XM → Option (Int32 × XM)
  | 0, _, _, _ => none
  | d + 1, a1, a2, X => fX7_wonAtB (fX7_wonAt d) a1 a2 X
theorem mX7_wonAt (l : Launch) (D : va_G) (L : Nat → Nat) (ac : Nat → ClassId) (hL : LL L) : ∀ (d : Nat) (X : XM) (a1 a2 r : Int32) (Y : XM), fX7_wonAt d a1 a2 X = some (r, Y) → Ci l yX7_wonAt wsX7_wonAt (rmW d) D L ac X [.ref (L 6), .int a1, .int a2] r Y := by
  intro d
  induction d with
  | zero => intro X a1 a2 r Y h; simp [fX7_wonAt] at h
  | succ d ih => intro X a1 a2 r Y h; exact mX7_wonAtB l D L ac hL d (fX7_wonAt d) ih X a1 a2 r Y h
theorem in_X7_valueBy_X7 : ∀ w ∈ u_ws RX7 TX7 8, w ∈ wsX7_valueBy := by decide +kernel
theorem lk_X7_valueBy_c24 : Cond.constant RX7 24 (-100000) ∈ wsX7_valueBy := by decide +kernel
theorem lk_X7_valueBy_f112 : Cond.fieldLink RX7 112 "PoisonPiles$Solver" "bonus" "I" ∈ wsX7_valueBy := by decide +kernel
theorem lk_X7_valueBy_f18 : Cond.fieldLink RX7 18 "PoisonPiles$Solver" "steps" "[I" ∈ wsX7_valueBy := by decide +kernel
theorem lk_X7_valueBy_f21 : Cond.fieldLink RX7 21 "PoisonPiles$Solver" "gained" "[I" ∈ wsX7_valueBy := by decide +kernel
def fX7_valueBy (Wc : Int32 → Int32 → XM → Option (Int32 × XM)) (a1 : Int32) (a2 : Int32) (a3 : Int32) (a4 : Int32) (X : XM) : Option (Int32 × XM) := if a1 < 0 then some ((-100000), X) else if 21 ≤ a1 then some ((-100000), X) else if a1 < 21 then if a3 = 0 then zd a1 21 (zd a1 21 (zi (Wc (a2 - (X 16 (Int32.toNatClampNeg a1))) (a4 + 1) X) (fun r_8 X_7 => some ((X 17 (Int32.toNatClampNeg a1)) - r_8, X_7)))) else zd a1 21 (some ((X 17 (Int32.toNatClampNeg a1)) - (X 13 1), X)) else some ((-100000), X)
set_option maxHeartbeats 4000000 in
set_option maxRecDepth 100000 in
theorem mX7_valueBy (l : Launch) (D : va_G) (L : Nat → Nat) (ac : Nat → ClassId) (hL : LL L) (d : Nat) (Wc : Int32 → Int32 → XM → Option (Int32 × XM)) (hW : ∀ (X : XM) (a1 a2 r : Int32) (Y : XM), Wc a1 a2 X = some (r, Y) → Ci l yX7_valueAt wsX7_valueAt (rmW d) D L ac X [.ref (L 6), .int a1, .int a2] r Y) (X : XM) (a1 : Int32) (a2 : Int32) (a3 : Int32) (a4 : Int32) (r0 : Int32) (X0 : XM) (hf : fX7_valueBy Wc a1 a2 a3 a4 X = some (r0, X0)) : Ci l yX7_valueBy wsX7_valueBy (rmB d) D L ac X [.ref (L 6), .int a1, .int a2, .int a3, .int a4] r0 X0 := by
  refine Met.ofK (cc := cX7_valueBy) (maxL := 5) (ret := (some .int)) (lv := [(0, .ref (L 6)), (1, .int a1), (2, .int a2), (3, .int a3), (4, .int a4)]) (by decide +kernel) rfl (Nat.le_of_ble_eq_true rfl) rfl ?_
  intro p e s m below meth c F hO ls hl
  obtain ⟨hx, hb, hr, hts, hown, hlocks, hml, hK, hN⟩ := id F
  have hA : ∀ q, fr L q → fr L q := fun q h => h
  unfold fX7_valueBy at hf
  refine lv_iload_n hx hb dX7_valueBy_0 rfl (lv_at hl 1 rfl) ?_
  refine lv_if_lt (tgt := 22) hx hb dX7_valueBy_1 (by decide) (fun c_1 => ?_) (fun c_1 => ?_)
  · rw [if_pos c_1] at hf
    refine lv_ldc (v := (-100000)) hx hb hown (hts _ lk_X7_valueBy_c24) dX7_valueBy_22 ?_
    obtain ⟨rfl, rfl⟩ := Prod.mk.inj (Option.some.inj hf)
    exact e_i hx hb hr hK hN hO hlocks dX7_valueBy_24
  · rw [if_neg c_1] at hf
    refine lv_iload_n hx hb dX7_valueBy_4 rfl (lv_at hl 1 rfl) ?_
    refine lv_aload_n hx hb dX7_valueBy_5 rfl (lv_at hl 0 rfl) ?_
    refine k_get (k := 2) (v := .ref (L 9)) hx hb hts in_X7_valueBy_X7 hown hK hO (by decide) rfl rfl (by decide) lk_X7_valueBy_f18 rfl dX7_valueBy_6 ?_
    refine k_alen (v := 21) (t := 0) hx hb hK hO (by decide) rfl rfl rfl dX7_valueBy_9 ?_
    refine lv_icmp_ge (tgt := 22) hx hb dX7_valueBy_10 (by decide) (fun c_2 => ?_) (fun c_2 => ?_)
    · rw [if_pos c_2] at hf
      refine lv_ldc (v := (-100000)) hx hb hown (hts _ lk_X7_valueBy_c24) dX7_valueBy_22 ?_
      obtain ⟨rfl, rfl⟩ := Prod.mk.inj (Option.some.inj hf)
      exact e_i hx hb hr hK hN hO hlocks dX7_valueBy_24
    · rw [if_neg c_2] at hf
      refine lv_iload_n hx hb dX7_valueBy_13 rfl (lv_at hl 1 rfl) ?_
      refine lv_aload_n hx hb dX7_valueBy_14 rfl (lv_at hl 0 rfl) ?_
      refine k_get (k := 3) (v := .ref (L 10)) hx hb hts in_X7_valueBy_X7 hown hK hO (by decide) rfl rfl (by decide) lk_X7_valueBy_f21 rfl dX7_valueBy_15 ?_
      refine k_alen (v := 21) (t := 0) hx hb hK hO (by decide) rfl rfl rfl dX7_valueBy_18 ?_
      refine lv_icmp_lt (tgt := 25) hx hb dX7_valueBy_19 (by decide) (fun c_3 => ?_) (fun c_3 => ?_)
      · rw [if_pos c_3] at hf
        refine lv_iload_n hx hb dX7_valueBy_25 rfl (lv_at hl 3 rfl) ?_
        refine lv_if_eq (tgt := 41) hx hb dX7_valueBy_26 (by decide) (fun c_4 => ?_) (fun c_4 => ?_)
        · rw [if_pos c_4] at hf
          subst c_4
          refine lv_aload_n hx hb dX7_valueBy_41 rfl (lv_at hl 0 rfl) ?_
          refine k_get (k := 3) (v := .ref (L 10)) hx hb hts in_X7_valueBy_X7 hown hK hO (by decide) rfl rfl (by decide) lk_X7_valueBy_f21 rfl dX7_valueBy_42 ?_
          refine lv_iload_n hx hb dX7_valueBy_45 rfl (lv_at hl 1 rfl) ?_
          replace hf := zd_some hf
          obtain ⟨hi_5, hf⟩ := hf
          refine k_iald hx hb hK hO (by decide) (fun _ => rfl) hi_5 dX7_valueBy_46 ?_
          refine lv_aload_n hx hb dX7_valueBy_47 rfl (lv_at hl 0 rfl) ?_
          refine lv_iload_n hx hb dX7_valueBy_48 rfl (lv_at hl 2 rfl) ?_
          refine lv_aload_n hx hb dX7_valueBy_49 rfl (lv_at hl 0 rfl) ?_
          refine k_get (k := 2) (v := .ref (L 9)) hx hb hts in_X7_valueBy_X7 hown hK hO (by decide) rfl rfl (by decide) lk_X7_valueBy_f18 rfl dX7_valueBy_50 ?_
          refine lv_iload_n hx hb dX7_valueBy_53 rfl (lv_at hl 1 rfl) ?_
          replace hf := zd_some hf
          obtain ⟨hi_6, hf⟩ := hf
          refine k_iald hx hb hK hO (by decide) (fun _ => rfl) hi_6 dX7_valueBy_54 ?_
          refine lv_isub hx hb dX7_valueBy_55 ?_
          refine lv_iload hx hb dX7_valueBy_56 (lv_at hl 4 rfl) ?_
          refine lv_iconst (v := 1) hx hb dX7_valueBy_58 (by decide) ?_
          refine lv_iadd hx hb dX7_valueBy_59 ?_
          replace hf := zi_some hf
          obtain ⟨r_8, X_7, hc_7, hf⟩ := hf
          refine k_ai (va_runV (As := [.int (a2 - (X 16 (Int32.toNatClampNeg a1))), .int (a4 + 1)]) (rest := [.int (X 17 (Int32.toNatClampNeg a1))]) ⟨hx, hb, hml, hown, hts⟩ (hW _ (a2 - (X 16 (Int32.toNatClampNeg a1))) (a4 + 1) _ _ hc_7) (cwV 2 hts gX7_valueBy_X7_valueAt rfl rfl rfl (by decide +kernel) ⟨by show 2 * d + 2 + 1 ≤ 2 * d + 3; omega, by show 8 + (8 + 11) + (60 * d + 100) ≤ 60 * d + 130; omega⟩) (k_pv (j := 6) hK hN hO (by decide) rfl rfl _) rfl rfl hl.1 rfl (lv_room (Nat.le_of_ble_eq_true rfl)) dX7_valueBy_60 ⟨Nat.le_of_ble_eq_true rfl, Nat.le_of_ble_eq_true rfl⟩) hA hO (fun H_9 locs_9 hO_9 => ?_)
          clear hO
          refine lv_isub hx hb dX7_valueBy_63 ?_
          obtain ⟨rfl, rfl⟩ := Prod.mk.inj (Option.some.inj hf)
          exact e_i hx hb hr hK hN hO_9 hlocks dX7_valueBy_64
        · rw [if_neg c_4] at hf
          refine lv_aload_n hx hb dX7_valueBy_29 rfl (lv_at hl 0 rfl) ?_
          refine k_get (k := 3) (v := .ref (L 10)) hx hb hts in_X7_valueBy_X7 hown hK hO (by decide) rfl rfl (by decide) lk_X7_valueBy_f21 rfl dX7_valueBy_30 ?_
          refine lv_iload_n hx hb dX7_valueBy_33 rfl (lv_at hl 1 rfl) ?_
          replace hf := zd_some hf
          obtain ⟨hi_10, hf⟩ := hf
          refine k_iald hx hb hK hO (by decide) (fun _ => rfl) hi_10 dX7_valueBy_34 ?_
          refine lv_aload_n hx hb dX7_valueBy_35 rfl (lv_at hl 0 rfl) ?_
          refine k_get (k := 5) (v := .int (X 13 1)) hx hb hts in_X7_valueBy_X7 hown hK hO (by decide) rfl rfl (by decide) lk_X7_valueBy_f112 rfl dX7_valueBy_36 ?_
          refine lv_isub hx hb dX7_valueBy_39 ?_
          obtain ⟨rfl, rfl⟩ := Prod.mk.inj (Option.some.inj hf)
          exact e_i hx hb hr hK hN hO hlocks dX7_valueBy_40
      · rw [if_neg c_3] at hf
        refine lv_ldc (v := (-100000)) hx hb hown (hts _ lk_X7_valueBy_c24) dX7_valueBy_22 ?_
        obtain ⟨rfl, rfl⟩ := Prod.mk.inj (Option.some.inj hf)
        exact e_i hx hb hr hK hN hO hlocks dX7_valueBy_24
theorem in_X7_valueAt_X7 : ∀ w ∈ u_ws RX7 TX7 8, w ∈ wsX7_valueAt := by decide +kernel
theorem lk_X7_valueAt_c24 : Cond.constant RX7 24 (-100000) ∈ wsX7_valueAt := by decide +kernel
theorem lk_X7_valueAt_f11 : Cond.fieldLink RX7 11 "PoisonPiles$Solver" "values" "[I" ∈ wsX7_valueAt := by decide +kernel
theorem lk_X7_valueAt_f112 : Cond.fieldLink RX7 112 "PoisonPiles$Solver" "bonus" "I" ∈ wsX7_valueAt := by decide +kernel
theorem lk_X7_valueAt_iX8 : Cond.initialized RX8 ∈ wsX7_valueAt := by decide +kernel
theorem lk_X7_valueAt_max1 : Cond.methodLink RX7 130 Lib.Math.max.name ∈ wsX7_valueAt := by decide +kernel
theorem lk_X7_valueAt_max2 : Cond.static Lib.Math.max.name ∈ wsX7_valueAt := by decide +kernel
theorem lk_X7_valueAt_max3 : Cond.initialized "java/lang/Math" ∈ wsX7_valueAt := by decide +kernel
theorem lk_X7_valueAt_max4 : Cond.code Lib.Math.max.name Lib.Math.max.code 2 (some .int) ∈ wsX7_valueAt := by decide +kernel
theorem lk_X7_valueAt_sX8_isIn : Cond.static yX8_isIn ∈ wsX7_valueAt := by decide +kernel
def fX7_valueAt_59 (Wc : Int32 → Int32 → XM → Option (Int32 × XM))  : Nat → Int32 → Int32 → Int32 → Int32 → Int32 → Int32 → Int32 → XM → Option (Int32 × XM)
  | 0, _, _, _, _, _, _, _, _ => none
  | n + 1, x1, x2, x3, x4, x5, x6, x7, X => if 20 < x7 then zd x1 23328 (zl (xup X 14 (Int32.toNatClampNeg x1) x6) (fun X_3 => zd x1 23328 (some (X_3 14 (Int32.toNatClampNeg x1), X_3)))) else zi (fX8_isIn x3 x7 X) (fun r_7 X_6 => if r_7 = 0 then fX7_valueAt_59 Wc n x1 x2 x3 x4 x5 x6 (x7 + 1) X_6 else zi (fX8_isIn x4 x7 X_6) (fun r_12 X_11 => zi (fX7_valueBy Wc x7 x5 r_12 x2 X_11) (fun r_15 X_14 => zl (o_max x6 r_15) (fun v_17 => fX7_valueAt_59 Wc n x1 x2 x3 x4 x5 v_17 (x7 + 1) X_14))))
set_option maxHeartbeats 4000000 in
set_option maxRecDepth 100000 in
theorem wX7_valueAt_59 {p : Program} {l : Launch} {e : Env} {s : State} {m : MethodId} {args : Array Value} {below : List Frame} {meth : Method} {c : Code} {D : va_G} {L : Nat → Nat} {ac : Nat → ClassId} {r0 : Int32} {X0 : XM} (hL : LL L) (d : Nat) (Wc : Int32 → Int32 → XM → Option (Int32 × XM)) (hW : ∀ (X : XM) (a1 a2 r : Int32) (Y : XM), Wc a1 a2 X = some (r, Y) → Ci l yX7_valueAt wsX7_valueAt (rmW d) D L ac X [.ref (L 6), .int a1, .int a2] r Y) (F : Fx p s m args meth c cX7_valueAt 8 (some .int) wsX7_valueAt yX7_valueAt.cls D ac) : ∀ (n : Nat) (x1 : Int32) (x2 : Int32) (x3 : Int32) (x4 : Int32) (x5 : Int32) (x6 : Int32) (x7 : Int32) (X : XM) (H : Heap) (locs : List Loc) (ls : Array Slot), Oh D L ac X (fr L) s.heap H locs → lv_has ls 8 [(0, .ref (L 6)), (1, .int x1), (2, .int x2), (3, .int x3), (4, .int x4), (5, .int x5), (6, .int x6), (7, .int x7)] → fX7_valueAt_59 Wc n x1 x2 x3 x4 x5 x6 x7 X = some (r0, X0) → W p l e (headSpec wsX7_valueAt (rmW (d + 1))).room s m args below meth c H locs 0 0 (MQ below (va_Qi (fun (r : Int32) (Y : XM) => r = r0 ∧ Y = X0) (fun (Y : XM) t => St D L ac Y t) (fr L)) args s 0 0 (fr L)) (F0 m 59 ls []) := by
  obtain ⟨hx, hb, hr, hts, hown, hlocks, hml, hK, hN⟩ := id F
  have hA : ∀ q, fr L q → fr L q := fun q h => h
  intro n
  induction n with
  | zero => intro x1 x2 x3 x4 x5 x6 x7 X H locs ls hO hl hf; simp [fX7_valueAt_59] at hf
  | succ n ih =>
    intro x1 x2 x3 x4 x5 x6 x7 X H locs ls hO hl hf
    rw [fX7_valueAt_59] at hf
    refine lv_iload hx hb dX7_valueAt_59 (lv_at hl 7 rfl) ?_
    refine lv_bipush (v := 20) hx hb dX7_valueAt_61 (by decide) ?_
    refine lv_icmp_gt (tgt := 104) hx hb dX7_valueAt_63 (by decide) (fun c_1 => ?_) (fun c_1 => ?_)
    · rw [if_pos c_1] at hf
      refine lv_aload_n hx hb dX7_valueAt_104 rfl (lv_at hl 0 rfl) ?_
      refine k_get (k := 0) (v := .ref (L 7)) hx hb hts in_X7_valueAt_X7 hown hK hO (by decide) rfl rfl (by decide) lk_X7_valueAt_f11 rfl dX7_valueAt_105 ?_
      refine lv_iload_n hx hb dX7_valueAt_108 rfl (lv_at hl 1 rfl) ?_
      refine lv_iload hx hb dX7_valueAt_109 (lv_at hl 6 rfl) ?_
      replace hf := zd_some hf
      obtain ⟨hi_2, hf⟩ := hf
      refine k_iast hx hb hK hL hA hO (by decide) (by decide) rfl (fun _ => rfl) hi_2 dX7_valueAt_111 (fun H_4 locs_4 hO_4 => ?_)
      replace hf := zl_some hf
      obtain ⟨X_3, hX_3, hf⟩ := hf
      have hQ_4 := zo_eq hX_3 hO_4
      clear hO_4 hO
      refine lv_aload_n hx hb dX7_valueAt_112 rfl (lv_at hl 0 rfl) ?_
      refine k_get (k := 0) (v := .ref (L 7)) hx hb hts in_X7_valueAt_X7 hown hK hQ_4 (by decide) rfl rfl (by decide) lk_X7_valueAt_f11 rfl dX7_valueAt_113 ?_
      refine lv_iload_n hx hb dX7_valueAt_116 rfl (lv_at hl 1 rfl) ?_
      replace hf := zd_some hf
      obtain ⟨hi_5, hf⟩ := hf
      refine k_iald hx hb hK hQ_4 (by decide) (fun _ => rfl) hi_5 dX7_valueAt_117 ?_
      obtain ⟨rfl, rfl⟩ := Prod.mk.inj (Option.some.inj hf)
      exact e_i hx hb hr hK hN hQ_4 hlocks dX7_valueAt_118
    · rw [if_neg c_1] at hf
      refine lv_iload_n hx hb dX7_valueAt_66 rfl (lv_at hl 3 rfl) ?_
      refine lv_iload hx hb dX7_valueAt_67 (lv_at hl 7 rfl) ?_
      replace hf := zi_some hf
      obtain ⟨r_7, X_6, hc_6, hf⟩ := hf
      refine k_ai (va_runSN (As := [.int x3, .int x7]) (rest := []) ⟨hx, hb, hml, hown, hts⟩ (mX8_isIn l D L ac hL _ x3 x7 _ _ hc_6) ⟨va_cnB 2 hts gX7_valueAt_X8_isIn_n47 rfl rfl rfl (hN _ nx_method_X7_47) (hts _ lk_X7_valueAt_iX8) (by decide +kernel) ⟨by show 0 + 1 ≤ 2 * (d + 1) + 2; omega, by show 8 + (2 + 11) + 0 ≤ 60 * (d + 1) + 100; omega⟩, hts _ lk_X7_valueAt_sX8_isIn, trivial⟩ (k_ps hK hN hO _) rfl rfl hl.1 rfl (lv_room (Nat.le_of_ble_eq_true rfl)) dX7_valueAt_69 ⟨Nat.le_of_ble_eq_true rfl, Nat.le_of_ble_eq_true rfl⟩) hA hO (fun H_8 locs_8 hO_8 => ?_)
      clear hO
      refine lv_if_eq (tgt := 98) hx hb dX7_valueAt_72 (by decide) (fun c_9 => ?_) (fun c_9 => ?_)
      · rw [if_pos c_9] at hf
        subst c_9
        refine lv_iinc (v := x7 + 1) (lv' := [(7, .int (x7 + 1)), (0, .ref (L 6)), (1, .int x1), (2, .int x2), (3, .int x3), (4, .int x4), (5, .int x5), (6, .int x6)]) hx hb dX7_valueAt_98 hl (k := 7) rfl rfl (by decide) rfl (fun ls_10 hl_10 => ?_)
        clear hl
        refine lv_goto (tgt := 59) hx hb dX7_valueAt_101 (by decide) ?_
        exact ih _ _ _ _ _ _ _ _  _ _ _ hO_8 (lv_sub hl_10 [1, 2, 3, 4, 5, 6, 7, 0] rfl) hf
      · rw [if_neg c_9] at hf
        refine lv_iload hx hb dX7_valueAt_75 (lv_at hl 6 rfl) ?_
        refine lv_aload_n hx hb dX7_valueAt_77 rfl (lv_at hl 0 rfl) ?_
        refine lv_iload hx hb dX7_valueAt_78 (lv_at hl 7 rfl) ?_
        refine lv_iload hx hb dX7_valueAt_80 (lv_at hl 5 rfl) ?_
        refine lv_iload hx hb dX7_valueAt_82 (lv_at hl 4 rfl) ?_
        refine lv_iload hx hb dX7_valueAt_84 (lv_at hl 7 rfl) ?_
        replace hf := zi_some hf
        obtain ⟨r_12, X_11, hc_11, hf⟩ := hf
        refine k_ai (va_runSN (As := [.int x4, .int x7]) (rest := [.int x5, .int x7, .ref (L 6), .int x6]) ⟨hx, hb, hml, hown, hts⟩ (mX8_isIn l D L ac hL _ x4 x7 _ _ hc_11) ⟨va_cnB 2 hts gX7_valueAt_X8_isIn_n47 rfl rfl rfl (hN _ nx_method_X7_47) (hts _ lk_X7_valueAt_iX8) (by decide +kernel) ⟨by show 0 + 1 ≤ 2 * (d + 1) + 2; omega, by show 8 + (2 + 11) + 0 ≤ 60 * (d + 1) + 100; omega⟩, hts _ lk_X7_valueAt_sX8_isIn, trivial⟩ (k_ps hK hN hO_8 _) rfl rfl hl.1 rfl (lv_room (Nat.le_of_ble_eq_true rfl)) dX7_valueAt_86 ⟨Nat.le_of_ble_eq_true rfl, Nat.le_of_ble_eq_true rfl⟩) hA hO_8 (fun H_13 locs_13 hO_13 => ?_)
        clear hO_8
        refine lv_iload_n hx hb dX7_valueAt_89 rfl (lv_at hl 2 rfl) ?_
        replace hf := zi_some hf
        obtain ⟨r_15, X_14, hc_14, hf⟩ := hf
        refine k_ai (va_runV (As := [.int x7, .int x5, .int r_12, .int x2]) (rest := [.int x6]) ⟨hx, hb, hml, hown, hts⟩ ((mX7_valueBy l D L ac hL d Wc hW) _ x7 x5 r_12 x2 _ _ hc_14) (cwV 4 hts gX7_valueAt_X7_valueBy rfl rfl rfl (by decide +kernel) ⟨by show 2 * d + 3 + 1 ≤ 2 * (d + 1) + 2; omega, by show 8 + (5 + 11) + (60 * d + 130) ≤ 60 * (d + 1) + 100; omega⟩) (k_pv (j := 6) hK hN hO_13 (by decide) rfl rfl _) rfl rfl hl.1 rfl (lv_room (Nat.le_of_ble_eq_true rfl)) dX7_valueAt_90 ⟨Nat.le_of_ble_eq_true rfl, Nat.le_of_ble_eq_true rfl⟩) hA hO_13 (fun H_16 locs_16 hO_16 => ?_)
        clear hO_13
        refine va_mmax hx hb (hml.trans hl.1.symm) hown (hts _ lk_X7_valueAt_max1) (hts _ lk_X7_valueAt_max2) (hts _ lk_X7_valueAt_max3) (hts _ lk_X7_valueAt_max4) (by show 1 ≤ 2 * (d + 1) + 2; omega) (by show _ ≤ 60 * (d + 1) + 100; simp only [List.map, Value.category, List.sum_cons, List.sum_nil]; omega) (Nat.le_of_ble_eq_true rfl) (Nat.le_of_ble_eq_true rfl) dX7_valueAt_93 ?_
        replace hf := zl_some hf
        obtain ⟨v_17, hv_17, hf⟩ := hf
        refine lv_tope hv_17 ?_
        refine lv_istore (lv' := [(6, .int v_17), (0, .ref (L 6)), (1, .int x1), (2, .int x2), (3, .int x3), (4, .int x4), (5, .int x5), (7, .int x7)]) hx hb dX7_valueAt_96 hl (by decide) rfl (fun ls_18 hl_18 => ?_)
        clear hl
        refine lv_iinc (v := x7 + 1) (lv' := [(7, .int (x7 + 1)), (6, .int v_17), (0, .ref (L 6)), (1, .int x1), (2, .int x2), (3, .int x3), (4, .int x4), (5, .int x5)]) hx hb dX7_valueAt_98 hl_18 (k := 7) rfl rfl (by decide) rfl (fun ls_19 hl_19 => ?_)
        clear hl_18
        refine lv_goto (tgt := 59) hx hb dX7_valueAt_101 (by decide) ?_
        exact ih _ _ _ _ _ _ _ _  _ _ _ hO_16 (lv_sub hl_19 [2, 3, 4, 5, 6, 7, 1, 0] rfl) hf
def fX7_valueAtB (Wc : Int32 → Int32 → XM → Option (Int32 × XM)) (a1 : Int32) (a2 : Int32) (X : XM) : Option (Int32 × XM) := zi (fX7_isSpot a1 a2 X) (fun r_21 X_20 => if r_21 = 0 then some (0, X_20) else zd a1 23328 (if (X_20 14 (Int32.toNatClampNeg a1)) = (-100000) then zi (fX7_movesAt a1 X_20) (fun r_28 X_27 => zi (fX7_poisonAt a1 X_27) (fun r_32 X_31 => zi (fX7_turned a1 X_31) (fun r_36 X_35 => if r_28 = 0 then zl (-(X_35 13 1)) (fun v_42 => fX7_valueAt_59 Wc fuel a1 a2 0 r_32 r_36 v_42 0 X_35) else fX7_valueAt_59 Wc fuel a1 a2 r_28 r_32 r_36 (-100000) 0 X_35))) else zd a1 23328 (some (X_20 14 (Int32.toNatClampNeg a1), X_20))))
set_option maxHeartbeats 4000000 in
set_option maxRecDepth 100000 in
theorem mX7_valueAtB (l : Launch) (D : va_G) (L : Nat → Nat) (ac : Nat → ClassId) (hL : LL L) (d : Nat) (Wc : Int32 → Int32 → XM → Option (Int32 × XM)) (hW : ∀ (X : XM) (a1 a2 r : Int32) (Y : XM), Wc a1 a2 X = some (r, Y) → Ci l yX7_valueAt wsX7_valueAt (rmW d) D L ac X [.ref (L 6), .int a1, .int a2] r Y) (X : XM) (a1 : Int32) (a2 : Int32) (r0 : Int32) (X0 : XM) (hf : fX7_valueAtB Wc a1 a2 X = some (r0, X0)) : Ci l yX7_valueAt wsX7_valueAt (rmW (d + 1)) D L ac X [.ref (L 6), .int a1, .int a2] r0 X0 := by
  refine Met.ofK (cc := cX7_valueAt) (maxL := 8) (ret := (some .int)) (lv := [(0, .ref (L 6)), (1, .int a1), (2, .int a2)]) (by decide +kernel) rfl (Nat.le_of_ble_eq_true rfl) rfl ?_
  intro p e s m below meth c F hO ls hl
  obtain ⟨hx, hb, hr, hts, hown, hlocks, hml, hK, hN⟩ := id F
  have hA : ∀ q, fr L q → fr L q := fun q h => h
  unfold fX7_valueAtB at hf
  refine lv_iload_n hx hb dX7_valueAt_0 rfl (lv_at hl 1 rfl) ?_
  refine lv_iload_n hx hb dX7_valueAt_1 rfl (lv_at hl 2 rfl) ?_
  replace hf := zi_some hf
  obtain ⟨r_21, X_20, hc_20, hf⟩ := hf
  refine k_ai (va_runS (As := [.int a1, .int a2]) (rest := []) ⟨hx, hb, hml, hown, hts⟩ (mX7_isSpot l D L ac hL _ a1 a2 _ _ hc_20) (va_cwS 2 hts gX7_valueAt_X7_isSpot rfl rfl rfl (by decide +kernel) ⟨by show 0 + 1 ≤ 2 * (d + 1) + 2; omega, by show 8 + (2 + 11) + 0 ≤ 60 * (d + 1) + 100; omega⟩) (k_ps hK hN hO _) rfl rfl hl.1 rfl (lv_room (Nat.le_of_ble_eq_true rfl)) dX7_valueAt_2 ⟨Nat.le_of_ble_eq_true rfl, Nat.le_of_ble_eq_true rfl⟩) hA hO (fun H_22 locs_22 hO_22 => ?_)
  clear hO
  refine lv_if_ne (tgt := 10) hx hb dX7_valueAt_5 (by decide) (fun c_23 => ?_) (fun c_23 => ?_)
  · rw [if_neg c_23] at hf
    refine lv_aload_n hx hb dX7_valueAt_10 rfl (lv_at hl 0 rfl) ?_
    refine k_get (k := 0) (v := .ref (L 7)) hx hb hts in_X7_valueAt_X7 hown hK hO_22 (by decide) rfl rfl (by decide) lk_X7_valueAt_f11 rfl dX7_valueAt_11 ?_
    refine lv_iload_n hx hb dX7_valueAt_14 rfl (lv_at hl 1 rfl) ?_
    replace hf := zd_some hf
    obtain ⟨hi_24, hf⟩ := hf
    refine k_iald hx hb hK hO_22 (by decide) (fun _ => rfl) hi_24 dX7_valueAt_15 ?_
    refine lv_ldc (v := (-100000)) hx hb hown (hts _ lk_X7_valueAt_c24) dX7_valueAt_16 ?_
    refine lv_icmp_ne (tgt := 112) hx hb dX7_valueAt_18 (by decide) (fun c_25 => ?_) (fun c_25 => ?_)
    · rw [if_neg c_25] at hf
      refine lv_aload_n hx hb dX7_valueAt_112 rfl (lv_at hl 0 rfl) ?_
      refine k_get (k := 0) (v := .ref (L 7)) hx hb hts in_X7_valueAt_X7 hown hK hO_22 (by decide) rfl rfl (by decide) lk_X7_valueAt_f11 rfl dX7_valueAt_113 ?_
      refine lv_iload_n hx hb dX7_valueAt_116 rfl (lv_at hl 1 rfl) ?_
      replace hf := zd_some hf
      obtain ⟨hi_26, hf⟩ := hf
      refine k_iald hx hb hK hO_22 (by decide) (fun _ => rfl) hi_26 dX7_valueAt_117 ?_
      obtain ⟨rfl, rfl⟩ := Prod.mk.inj (Option.some.inj hf)
      exact e_i hx hb hr hK hN hO_22 hlocks dX7_valueAt_118
    · rw [if_pos c_25] at hf
      refine lv_aload_n hx hb dX7_valueAt_21 rfl (lv_at hl 0 rfl) ?_
      refine lv_iload_n hx hb dX7_valueAt_22 rfl (lv_at hl 1 rfl) ?_
      replace hf := zi_some hf
      obtain ⟨r_28, X_27, hc_27, hf⟩ := hf
      refine k_ai (va_runV (As := [.int a1]) (rest := []) ⟨hx, hb, hml, hown, hts⟩ (mX7_movesAt l D L ac hL _ a1 _ _ hc_27) (cwV 1 hts gX7_valueAt_X7_movesAt rfl rfl rfl (by decide +kernel) ⟨by show 1 + 1 ≤ 2 * (d + 1) + 2; omega, by show 8 + (7 + 11) + 22 ≤ 60 * (d + 1) + 100; omega⟩) (k_pv (j := 6) hK hN hO_22 (by decide) rfl rfl _) rfl rfl hl.1 rfl (lv_room (Nat.le_of_ble_eq_true rfl)) dX7_valueAt_23 ⟨Nat.le_of_ble_eq_true rfl, Nat.le_of_ble_eq_true rfl⟩) hA hO_22 (fun H_29 locs_29 hO_29 => ?_)
      clear hO_22
      refine lv_istore_n (lv' := [(3, .int r_28), (0, .ref (L 6)), (1, .int a1), (2, .int a2)]) hx hb dX7_valueAt_26 rfl hl (by decide) rfl (fun ls_30 hl_30 => ?_)
      clear hl
      refine lv_aload_n hx hb dX7_valueAt_27 rfl (lv_at hl_30 1 rfl) ?_
      refine lv_iload_n hx hb dX7_valueAt_28 rfl (lv_at hl_30 2 rfl) ?_
      replace hf := zi_some hf
      obtain ⟨r_32, X_31, hc_31, hf⟩ := hf
      refine k_ai (va_runV (As := [.int a1]) (rest := []) ⟨hx, hb, hml, hown, hts⟩ (mX7_poisonAt l D L ac hL _ a1 _ _ hc_31) (cwV 1 hts gX7_valueAt_X7_poisonAt rfl rfl rfl (by decide +kernel) ⟨by show 1 + 1 ≤ 2 * (d + 1) + 2; omega, by show 8 + (6 + 11) + 21 ≤ 60 * (d + 1) + 100; omega⟩) (k_pv (j := 6) hK hN hO_29 (by decide) rfl rfl _) rfl rfl hl_30.1 rfl (lv_room (Nat.le_of_ble_eq_true rfl)) dX7_valueAt_29 ⟨Nat.le_of_ble_eq_true rfl, Nat.le_of_ble_eq_true rfl⟩) hA hO_29 (fun H_33 locs_33 hO_33 => ?_)
      clear hO_29
      refine lv_istore (lv' := [(4, .int r_32), (3, .int r_28), (0, .ref (L 6)), (1, .int a1), (2, .int a2)]) hx hb dX7_valueAt_32 hl_30 (by decide) rfl (fun ls_34 hl_34 => ?_)
      clear hl_30
      refine lv_iload_n hx hb dX7_valueAt_34 rfl (lv_at hl_34 3 rfl) ?_
      replace hf := zi_some hf
      obtain ⟨r_36, X_35, hc_35, hf⟩ := hf
      refine k_ai (va_runS (As := [.int a1]) (rest := []) ⟨hx, hb, hml, hown, hts⟩ (mX7_turned l D L ac hL _ a1 _ _ hc_35) (va_cwS 1 hts gX7_valueAt_X7_turned rfl rfl rfl (by decide +kernel) ⟨by show 0 + 1 ≤ 2 * (d + 1) + 2; omega, by show 8 + (3 + 11) + 0 ≤ 60 * (d + 1) + 100; omega⟩) (k_ps hK hN hO_33 _) rfl rfl hl_34.1 rfl (lv_room (Nat.le_of_ble_eq_true rfl)) dX7_valueAt_35 ⟨Nat.le_of_ble_eq_true rfl, Nat.le_of_ble_eq_true rfl⟩) hA hO_33 (fun H_37 locs_37 hO_37 => ?_)
      clear hO_33
      refine lv_istore (lv' := [(5, .int r_36), (4, .int r_32), (3, .int r_28), (0, .ref (L 6)), (1, .int a1), (2, .int a2)]) hx hb dX7_valueAt_38 hl_34 (by decide) rfl (fun ls_38 hl_38 => ?_)
      clear hl_34
      refine lv_iload_n hx hb dX7_valueAt_40 rfl (lv_at hl_38 2 rfl) ?_
      refine lv_if_ne (tgt := 52) hx hb dX7_valueAt_41 (by decide) (fun c_39 => ?_) (fun c_39 => ?_)
      · rw [if_neg c_39] at hf
        refine lv_ldc (v := (-100000)) hx hb hown (hts _ lk_X7_valueAt_c24) dX7_valueAt_52 ?_
        refine lv_istore (lv' := [(6, .int (-100000)), (5, .int r_36), (4, .int r_32), (3, .int r_28), (0, .ref (L 6)), (1, .int a1), (2, .int a2)]) hx hb dX7_valueAt_54 hl_38 (by decide) rfl (fun ls_40 hl_40 => ?_)
        clear hl_38
        refine lv_iconst (v := 0) hx hb dX7_valueAt_56 (by decide) ?_
        refine lv_istore (lv' := [(7, .int 0), (6, .int (-100000)), (5, .int r_36), (4, .int r_32), (3, .int r_28), (0, .ref (L 6)), (1, .int a1), (2, .int a2)]) hx hb dX7_valueAt_57 hl_40 (by decide) rfl (fun ls_41 hl_41 => ?_)
        clear hl_40
        exact wX7_valueAt_59 hL d Wc hW F  fuel _ _ _ _ _ _ _ _  _ _ _ hO_37 (lv_sub hl_41 [5, 6, 7, 4, 3, 2, 1, 0] rfl) hf
      · rw [if_pos c_39] at hf
        subst c_39
        refine lv_aload_n hx hb dX7_valueAt_44 rfl (lv_at hl_38 3 rfl) ?_
        refine k_get (k := 5) (v := .int (X_35 13 1)) hx hb hts in_X7_valueAt_X7 hown hK hO_37 (by decide) rfl rfl (by decide) lk_X7_valueAt_f112 rfl dX7_valueAt_45 ?_
        refine lv_ineg hx hb dX7_valueAt_48 ?_
        refine lv_goto (tgt := 54) hx hb dX7_valueAt_49 (by decide) ?_
        replace hf := zl_some hf
        obtain ⟨v_42, hv_42, hf⟩ := hf
        refine lv_tope hv_42 ?_
        refine lv_istore (lv' := [(6, .int v_42), (5, .int r_36), (4, .int r_32), (3, .int 0), (0, .ref (L 6)), (1, .int a1), (2, .int a2)]) hx hb dX7_valueAt_54 hl_38 (by decide) rfl (fun ls_43 hl_43 => ?_)
        clear hl_38
        refine lv_iconst (v := 0) hx hb dX7_valueAt_56 (by decide) ?_
        refine lv_istore (lv' := [(7, .int 0), (6, .int v_42), (5, .int r_36), (4, .int r_32), (3, .int 0), (0, .ref (L 6)), (1, .int a1), (2, .int a2)]) hx hb dX7_valueAt_57 hl_43 (by decide) rfl (fun ls_44 hl_44 => ?_)
        clear hl_43
        exact wX7_valueAt_59 hL d Wc hW F  fuel _ _ _ _ _ _ _ _  _ _ _ hO_37 (lv_sub hl_44 [5, 6, 7, 4, 3, 2, 1, 0] rfl) hf
  · rw [if_pos c_23] at hf
    subst c_23
    refine lv_iconst (v := 0) hx hb dX7_valueAt_8 (by decide) ?_
    obtain ⟨rfl, rfl⟩ := Prod.mk.inj (Option.some.inj hf)
    exact e_i hx hb hr hK hN hO_22 hlocks dX7_valueAt_9
def fX7_valueAt : Nat → Int32 → Int32 → XM → Option (Int32 × XM)
  | 0, _, _, _ => none
  | d + 1, a1, a2, X => fX7_valueAtB (fX7_valueAt d) a1 a2 X
theorem mX7_valueAt (l : Launch) (D : va_G) (L : Nat → Nat) (ac : Nat → ClassId) (hL : LL L) : ∀ (d : Nat) (X : XM) (a1 a2 r : Int32) (Y : XM), fX7_valueAt d a1 a2 X = some (r, Y) → Ci l yX7_valueAt wsX7_valueAt (rmW d) D L ac X [.ref (L 6), .int a1, .int a2] r Y := by
  intro d
  induction d with
  | zero => intro X a1 a2 r Y h; simp [fX7_valueAt] at h
  | succ d ih => intro X a1 a2 r Y h; exact mX7_valueAtB l D L ac hL d (fX7_valueAt d) ih X a1 a2 r Y h
def fX7_isWon  (g : Nat) (X : XM) : Option (Int32 × XM) := zi (fX7_spotOf g X) (fun r_2 X_1 => zi (fX7_wonAt 30 r_2 0 X_1) (fun r_5 X_4 => zb r_5 (some (r_5, X_4))))
set_option maxHeartbeats 4000000 in
set_option maxRecDepth 100000 in
theorem mX7_isWon (l : Launch) (D : va_G) (L : Nat → Nat) (ac : Nat → ClassId) (hL : LL L) (X : XM) (g : Nat) (hg : g < 11) (r0 : Int32) (X0 : XM) (hf : fX7_isWon g X = some (r0, X0)) : Ci l yX7_isWon wsX7_isWon ({ frames := 63, cells := 0, slots := 0, locals := 1927 }) D L ac X [.ref (L 6), .ref (L (aG g))] r0 X0 := by
  refine Met.ofK (cc := cX7_isWon) (maxL := 2) (ret := (some .boolean)) (lv := [(0, .ref (L 6)), (1, .ref (L (aG g)))]) (by decide +kernel) rfl (Nat.le_of_ble_eq_true rfl) rfl ?_
  intro p e s m below meth c F hO ls hl
  obtain ⟨hx, hb, hr, hts, hown, hlocks, hml, hK, hN⟩ := id F
  have hA : ∀ q, fr L q → fr L q := fun q h => h
  unfold fX7_isWon at hf
  refine lv_aload_n hx hb dX7_isWon_0 rfl (lv_at hl 0 rfl) ?_
  refine lv_aload_n hx hb dX7_isWon_1 rfl (lv_at hl 0 rfl) ?_
  refine lv_aload_n hx hb dX7_isWon_2 rfl (lv_at hl 1 rfl) ?_
  replace hf := zi_some hf
  obtain ⟨r_2, X_1, hc_1, hf⟩ := hf
  refine k_ai (va_runV (As := [.ref (L (aG g))]) (rest := [.ref (L 6)]) ⟨hx, hb, hml, hown, hts⟩ (mX7_spotOf l D L ac hL _ g hg _ _ hc_1) (cwV 1 hts gX7_isWon_X7_spotOf rfl rfl rfl (by decide +kernel) ⟨Nat.le_of_ble_eq_true rfl, Nat.le_of_ble_eq_true rfl⟩) (k_pv (j := 6) hK hN hO (by decide) rfl rfl _) rfl rfl hl.1 rfl (lv_room (Nat.le_of_ble_eq_true rfl)) dX7_isWon_3 ⟨Nat.le_of_ble_eq_true rfl, Nat.le_of_ble_eq_true rfl⟩) hA hO (fun H_3 locs_3 hO_3 => ?_)
  clear hO
  refine lv_iconst (v := 0) hx hb dX7_isWon_6 (by decide) ?_
  replace hf := zi_some hf
  obtain ⟨r_5, X_4, hc_4, hf⟩ := hf
  refine k_ai (va_runV (As := [.int r_2, .int 0]) (rest := []) ⟨hx, hb, hml, hown, hts⟩ ((mX7_wonAt l D L ac hL 30) _ r_2 0 _ _ hc_4) (cwV 2 hts gX7_isWon_X7_wonAt rfl rfl rfl (by decide +kernel) ⟨Nat.le_of_ble_eq_true rfl, Nat.le_of_ble_eq_true rfl⟩) (k_pv (j := 6) hK hN hO_3 (by decide) rfl rfl _) rfl rfl hl.1 rfl (lv_room (Nat.le_of_ble_eq_true rfl)) dX7_isWon_7 ⟨Nat.le_of_ble_eq_true rfl, Nat.le_of_ble_eq_true rfl⟩) hA hO_3 (fun H_6 locs_6 hO_6 => ?_)
  clear hO_3
  replace hf := zb_some hf
  obtain ⟨hb_7, hf⟩ := hf
  obtain ⟨rfl, rfl⟩ := Prod.mk.inj (Option.some.inj hf)
  exact e_n hx hb hr (bo_n hb_7) hK hN hO_6 hlocks dX7_isWon_10
theorem lk_X7_winningMoves_iX8 : Cond.initialized RX8 ∈ wsX7_winningMoves := by decide +kernel
theorem lk_X7_winningMoves_sX8_isIn : Cond.static yX8_isIn ∈ wsX7_winningMoves := by decide +kernel
def fX7_winningMoves_31   : Nat → Nat → Int32 → Int32 → Int32 → Int32 → Int32 → Int32 → XM → Option (Int32 × XM)
  | 0, _, _, _, _, _, _, _, _ => none
  | n + 1, g, x2, x3, x4, x5, x6, x7, X => if 20 < x7 then some (x6, X) else zi (fX8_isIn x3 x7 X) (fun r_3 X_2 => if r_3 = 0 then fX7_winningMoves_31 n g x2 x3 x4 x5 x6 (x7 + 1) X_2 else zi (fX8_isIn x4 x7 X_2) (fun r_8 X_7 => zi (fX7_winsBy (fX7_wonAt 30) x7 x5 r_8 0 X_7) (fun r_11 X_10 => if r_11 = 0 then fX7_winningMoves_31 n g x2 x3 x4 x5 x6 (x7 + 1) X_10 else zl (x6 ||| (o_shl 1 x7)) (fun v_15 => fX7_winningMoves_31 n g x2 x3 x4 x5 v_15 (x7 + 1) X_10))))
set_option maxHeartbeats 4000000 in
set_option maxRecDepth 100000 in
theorem wX7_winningMoves_31 {p : Program} {l : Launch} {e : Env} {s : State} {m : MethodId} {args : Array Value} {below : List Frame} {meth : Method} {c : Code} {D : va_G} {L : Nat → Nat} {ac : Nat → ClassId} {r0 : Int32} {X0 : XM} (hL : LL L) (F : Fx p s m args meth c cX7_winningMoves 8 (some .int) wsX7_winningMoves yX7_winningMoves.cls D ac) : ∀ (n : Nat) (g : Nat) (x2 : Int32) (x3 : Int32) (x4 : Int32) (x5 : Int32) (x6 : Int32) (x7 : Int32) (X : XM) (_ : g < 11) (H : Heap) (locs : List Loc) (ls : Array Slot), Oh D L ac X (fr L) s.heap H locs → lv_has ls 8 [(0, .ref (L 6)), (1, .ref (L (aG g))), (2, .int x2), (3, .int x3), (4, .int x4), (5, .int x5), (6, .int x6), (7, .int x7)] → fX7_winningMoves_31 n g x2 x3 x4 x5 x6 x7 X = some (r0, X0) → W p l e (headSpec wsX7_winningMoves ({ frames := 64, cells := 0, slots := 0, locals := 1954 })).room s m args below meth c H locs 0 0 (MQ below (va_Qi (fun (r : Int32) (Y : XM) => r = r0 ∧ Y = X0) (fun (Y : XM) t => St D L ac Y t) (fr L)) args s 0 0 (fr L)) (F0 m 31 ls []) := by
  obtain ⟨hx, hb, hr, hts, hown, hlocks, hml, hK, hN⟩ := id F
  have hA : ∀ q, fr L q → fr L q := fun q h => h
  intro n
  induction n with
  | zero => intro g x2 x3 x4 x5 x6 x7 X h_ H locs ls hO hl hf; simp [fX7_winningMoves_31] at hf
  | succ n ih =>
    intro g x2 x3 x4 x5 x6 x7 X hg H locs ls hO hl hf
    rw [fX7_winningMoves_31] at hf
    refine lv_iload hx hb dX7_winningMoves_31 (lv_at hl 7 rfl) ?_
    refine lv_bipush (v := 20) hx hb dX7_winningMoves_33 (by decide) ?_
    refine lv_icmp_gt (tgt := 81) hx hb dX7_winningMoves_35 (by decide) (fun c_1 => ?_) (fun c_1 => ?_)
    · rw [if_pos c_1] at hf
      refine lv_iload hx hb dX7_winningMoves_81 (lv_at hl 6 rfl) ?_
      obtain ⟨rfl, rfl⟩ := Prod.mk.inj (Option.some.inj hf)
      exact e_i hx hb hr hK hN hO hlocks dX7_winningMoves_83
    · rw [if_neg c_1] at hf
      refine lv_iload_n hx hb dX7_winningMoves_38 rfl (lv_at hl 3 rfl) ?_
      refine lv_iload hx hb dX7_winningMoves_39 (lv_at hl 7 rfl) ?_
      replace hf := zi_some hf
      obtain ⟨r_3, X_2, hc_2, hf⟩ := hf
      refine k_ai (va_runSN (As := [.int x3, .int x7]) (rest := []) ⟨hx, hb, hml, hown, hts⟩ (mX8_isIn l D L ac hL _ x3 x7 _ _ hc_2) ⟨va_cnB 2 hts gX7_winningMoves_X8_isIn_n47 rfl rfl rfl (hN _ nx_method_X7_47) (hts _ lk_X7_winningMoves_iX8) (by decide +kernel) ⟨Nat.le_of_ble_eq_true rfl, Nat.le_of_ble_eq_true rfl⟩, hts _ lk_X7_winningMoves_sX8_isIn, trivial⟩ (k_ps hK hN hO _) rfl rfl hl.1 rfl (lv_room (Nat.le_of_ble_eq_true rfl)) dX7_winningMoves_41 ⟨Nat.le_of_ble_eq_true rfl, Nat.le_of_ble_eq_true rfl⟩) hA hO (fun H_4 locs_4 hO_4 => ?_)
      clear hO
      refine lv_if_eq (tgt := 75) hx hb dX7_winningMoves_44 (by decide) (fun c_5 => ?_) (fun c_5 => ?_)
      · rw [if_pos c_5] at hf
        subst c_5
        refine lv_iinc (v := x7 + 1) (lv' := [(7, .int (x7 + 1)), (0, .ref (L 6)), (1, .ref (L (aG g))), (2, .int x2), (3, .int x3), (4, .int x4), (5, .int x5), (6, .int x6)]) hx hb dX7_winningMoves_75 hl (k := 7) rfl rfl (by decide) rfl (fun ls_6 hl_6 => ?_)
        clear hl
        refine lv_goto (tgt := 31) hx hb dX7_winningMoves_78 (by decide) ?_
        exact ih _ _ _ _ _ _ _ _ hg _ _ _ hO_4 (lv_sub hl_6 [1, 2, 3, 4, 5, 6, 7, 0] rfl) hf
      · rw [if_neg c_5] at hf
        refine lv_aload_n hx hb dX7_winningMoves_47 rfl (lv_at hl 0 rfl) ?_
        refine lv_iload hx hb dX7_winningMoves_48 (lv_at hl 7 rfl) ?_
        refine lv_iload hx hb dX7_winningMoves_50 (lv_at hl 5 rfl) ?_
        refine lv_iload hx hb dX7_winningMoves_52 (lv_at hl 4 rfl) ?_
        refine lv_iload hx hb dX7_winningMoves_54 (lv_at hl 7 rfl) ?_
        replace hf := zi_some hf
        obtain ⟨r_8, X_7, hc_7, hf⟩ := hf
        refine k_ai (va_runSN (As := [.int x4, .int x7]) (rest := [.int x5, .int x7, .ref (L 6)]) ⟨hx, hb, hml, hown, hts⟩ (mX8_isIn l D L ac hL _ x4 x7 _ _ hc_7) ⟨va_cnB 2 hts gX7_winningMoves_X8_isIn_n47 rfl rfl rfl (hN _ nx_method_X7_47) (hts _ lk_X7_winningMoves_iX8) (by decide +kernel) ⟨Nat.le_of_ble_eq_true rfl, Nat.le_of_ble_eq_true rfl⟩, hts _ lk_X7_winningMoves_sX8_isIn, trivial⟩ (k_ps hK hN hO_4 _) rfl rfl hl.1 rfl (lv_room (Nat.le_of_ble_eq_true rfl)) dX7_winningMoves_56 ⟨Nat.le_of_ble_eq_true rfl, Nat.le_of_ble_eq_true rfl⟩) hA hO_4 (fun H_9 locs_9 hO_9 => ?_)
        clear hO_4
        refine lv_iconst (v := 0) hx hb dX7_winningMoves_59 (by decide) ?_
        replace hf := zi_some hf
        obtain ⟨r_11, X_10, hc_10, hf⟩ := hf
        refine k_ai (va_runV (As := [.int x7, .int x5, .int r_8, .int 0]) (rest := []) ⟨hx, hb, hml, hown, hts⟩ ((mX7_winsBy l D L ac hL 30 (fX7_wonAt 30) (mX7_wonAt l D L ac hL 30)) _ x7 x5 r_8 0 _ _ hc_10) (cwV 4 hts gX7_winningMoves_X7_winsBy rfl rfl rfl (by decide +kernel) ⟨Nat.le_of_ble_eq_true rfl, Nat.le_of_ble_eq_true rfl⟩) (k_pv (j := 6) hK hN hO_9 (by decide) rfl rfl _) rfl rfl hl.1 rfl (lv_room (Nat.le_of_ble_eq_true rfl)) dX7_winningMoves_60 ⟨Nat.le_of_ble_eq_true rfl, Nat.le_of_ble_eq_true rfl⟩) hA hO_9 (fun H_12 locs_12 hO_12 => ?_)
        clear hO_9
        refine lv_if_eq (tgt := 75) hx hb dX7_winningMoves_63 (by decide) (fun c_13 => ?_) (fun c_13 => ?_)
        · rw [if_pos c_13] at hf
          subst c_13
          refine lv_iinc (v := x7 + 1) (lv' := [(7, .int (x7 + 1)), (0, .ref (L 6)), (1, .ref (L (aG g))), (2, .int x2), (3, .int x3), (4, .int x4), (5, .int x5), (6, .int x6)]) hx hb dX7_winningMoves_75 hl (k := 7) rfl rfl (by decide) rfl (fun ls_14 hl_14 => ?_)
          clear hl
          refine lv_goto (tgt := 31) hx hb dX7_winningMoves_78 (by decide) ?_
          exact ih _ _ _ _ _ _ _ _ hg _ _ _ hO_12 (lv_sub hl_14 [1, 2, 3, 4, 5, 6, 7, 0] rfl) hf
        · rw [if_neg c_13] at hf
          refine lv_iload hx hb dX7_winningMoves_66 (lv_at hl 6 rfl) ?_
          refine lv_iconst (v := 1) hx hb dX7_winningMoves_68 (by decide) ?_
          refine lv_iload hx hb dX7_winningMoves_69 (lv_at hl 7 rfl) ?_
          refine lv_ishl hx hb dX7_winningMoves_71 ?_
          refine lv_ior hx hb dX7_winningMoves_72 ?_
          replace hf := zl_some hf
          obtain ⟨v_15, hv_15, hf⟩ := hf
          refine lv_tope hv_15 ?_
          refine lv_istore (lv' := [(6, .int v_15), (0, .ref (L 6)), (1, .ref (L (aG g))), (2, .int x2), (3, .int x3), (4, .int x4), (5, .int x5), (7, .int x7)]) hx hb dX7_winningMoves_73 hl (by decide) rfl (fun ls_16 hl_16 => ?_)
          clear hl
          refine lv_iinc (v := x7 + 1) (lv' := [(7, .int (x7 + 1)), (6, .int v_15), (0, .ref (L 6)), (1, .ref (L (aG g))), (2, .int x2), (3, .int x3), (4, .int x4), (5, .int x5)]) hx hb dX7_winningMoves_75 hl_16 (k := 7) rfl rfl (by decide) rfl (fun ls_17 hl_17 => ?_)
          clear hl_16
          refine lv_goto (tgt := 31) hx hb dX7_winningMoves_78 (by decide) ?_
          exact ih _ _ _ _ _ _ _ _ hg _ _ _ hO_12 (lv_sub hl_17 [2, 3, 4, 5, 6, 7, 1, 0] rfl) hf
def fX7_winningMoves  (g : Nat) (X : XM) : Option (Int32 × XM) := zi (fX7_spotOf g X) (fun r_19 X_18 => zi (fX7_movesAt r_19 X_18) (fun r_23 X_22 => zi (fX7_poisonAt r_19 X_22) (fun r_27 X_26 => zi (fX7_turned r_19 X_26) (fun r_31 X_30 => fX7_winningMoves_31 fuel g r_19 r_23 r_27 r_31 0 0 X_30))))
set_option maxHeartbeats 4000000 in
set_option maxRecDepth 100000 in
theorem mX7_winningMoves (l : Launch) (D : va_G) (L : Nat → Nat) (ac : Nat → ClassId) (hL : LL L) (X : XM) (g : Nat) (hg : g < 11) (r0 : Int32) (X0 : XM) (hf : fX7_winningMoves g X = some (r0, X0)) : Ci l yX7_winningMoves wsX7_winningMoves ({ frames := 64, cells := 0, slots := 0, locals := 1954 }) D L ac X [.ref (L 6), .ref (L (aG g))] r0 X0 := by
  refine Met.ofK (cc := cX7_winningMoves) (maxL := 8) (ret := (some .int)) (lv := [(0, .ref (L 6)), (1, .ref (L (aG g)))]) (by decide +kernel) rfl (Nat.le_of_ble_eq_true rfl) rfl ?_
  intro p e s m below meth c F hO ls hl
  obtain ⟨hx, hb, hr, hts, hown, hlocks, hml, hK, hN⟩ := id F
  have hA : ∀ q, fr L q → fr L q := fun q h => h
  unfold fX7_winningMoves at hf
  refine lv_aload_n hx hb dX7_winningMoves_0 rfl (lv_at hl 0 rfl) ?_
  refine lv_aload_n hx hb dX7_winningMoves_1 rfl (lv_at hl 1 rfl) ?_
  replace hf := zi_some hf
  obtain ⟨r_19, X_18, hc_18, hf⟩ := hf
  refine k_ai (va_runV (As := [.ref (L (aG g))]) (rest := []) ⟨hx, hb, hml, hown, hts⟩ (mX7_spotOf l D L ac hL _ g hg _ _ hc_18) (cwV 1 hts gX7_winningMoves_X7_spotOf rfl rfl rfl (by decide +kernel) ⟨Nat.le_of_ble_eq_true rfl, Nat.le_of_ble_eq_true rfl⟩) (k_pv (j := 6) hK hN hO (by decide) rfl rfl _) rfl rfl hl.1 rfl (lv_room (Nat.le_of_ble_eq_true rfl)) dX7_winningMoves_2 ⟨Nat.le_of_ble_eq_true rfl, Nat.le_of_ble_eq_true rfl⟩) hA hO (fun H_20 locs_20 hO_20 => ?_)
  clear hO
  refine lv_istore_n (lv' := [(2, .int r_19), (0, .ref (L 6)), (1, .ref (L (aG g)))]) hx hb dX7_winningMoves_5 rfl hl (by decide) rfl (fun ls_21 hl_21 => ?_)
  clear hl
  refine lv_aload_n hx hb dX7_winningMoves_6 rfl (lv_at hl_21 1 rfl) ?_
  refine lv_iload_n hx hb dX7_winningMoves_7 rfl (lv_at hl_21 0 rfl) ?_
  replace hf := zi_some hf
  obtain ⟨r_23, X_22, hc_22, hf⟩ := hf
  refine k_ai (va_runV (As := [.int r_19]) (rest := []) ⟨hx, hb, hml, hown, hts⟩ (mX7_movesAt l D L ac hL _ r_19 _ _ hc_22) (cwV 1 hts gX7_winningMoves_X7_movesAt rfl rfl rfl (by decide +kernel) ⟨Nat.le_of_ble_eq_true rfl, Nat.le_of_ble_eq_true rfl⟩) (k_pv (j := 6) hK hN hO_20 (by decide) rfl rfl _) rfl rfl hl_21.1 rfl (lv_room (Nat.le_of_ble_eq_true rfl)) dX7_winningMoves_8 ⟨Nat.le_of_ble_eq_true rfl, Nat.le_of_ble_eq_true rfl⟩) hA hO_20 (fun H_24 locs_24 hO_24 => ?_)
  clear hO_20
  refine lv_istore_n (lv' := [(3, .int r_23), (2, .int r_19), (0, .ref (L 6)), (1, .ref (L (aG g)))]) hx hb dX7_winningMoves_11 rfl hl_21 (by decide) rfl (fun ls_25 hl_25 => ?_)
  clear hl_21
  refine lv_aload_n hx hb dX7_winningMoves_12 rfl (lv_at hl_25 2 rfl) ?_
  refine lv_iload_n hx hb dX7_winningMoves_13 rfl (lv_at hl_25 1 rfl) ?_
  replace hf := zi_some hf
  obtain ⟨r_27, X_26, hc_26, hf⟩ := hf
  refine k_ai (va_runV (As := [.int r_19]) (rest := []) ⟨hx, hb, hml, hown, hts⟩ (mX7_poisonAt l D L ac hL _ r_19 _ _ hc_26) (cwV 1 hts gX7_winningMoves_X7_poisonAt rfl rfl rfl (by decide +kernel) ⟨Nat.le_of_ble_eq_true rfl, Nat.le_of_ble_eq_true rfl⟩) (k_pv (j := 6) hK hN hO_24 (by decide) rfl rfl _) rfl rfl hl_25.1 rfl (lv_room (Nat.le_of_ble_eq_true rfl)) dX7_winningMoves_14 ⟨Nat.le_of_ble_eq_true rfl, Nat.le_of_ble_eq_true rfl⟩) hA hO_24 (fun H_28 locs_28 hO_28 => ?_)
  clear hO_24
  refine lv_istore (lv' := [(4, .int r_27), (3, .int r_23), (2, .int r_19), (0, .ref (L 6)), (1, .ref (L (aG g)))]) hx hb dX7_winningMoves_17 hl_25 (by decide) rfl (fun ls_29 hl_29 => ?_)
  clear hl_25
  refine lv_iload_n hx hb dX7_winningMoves_19 rfl (lv_at hl_29 2 rfl) ?_
  replace hf := zi_some hf
  obtain ⟨r_31, X_30, hc_30, hf⟩ := hf
  refine k_ai (va_runS (As := [.int r_19]) (rest := []) ⟨hx, hb, hml, hown, hts⟩ (mX7_turned l D L ac hL _ r_19 _ _ hc_30) (va_cwS 1 hts gX7_winningMoves_X7_turned rfl rfl rfl (by decide +kernel) ⟨Nat.le_of_ble_eq_true rfl, Nat.le_of_ble_eq_true rfl⟩) (k_ps hK hN hO_28 _) rfl rfl hl_29.1 rfl (lv_room (Nat.le_of_ble_eq_true rfl)) dX7_winningMoves_20 ⟨Nat.le_of_ble_eq_true rfl, Nat.le_of_ble_eq_true rfl⟩) hA hO_28 (fun H_32 locs_32 hO_32 => ?_)
  clear hO_28
  refine lv_istore (lv' := [(5, .int r_31), (4, .int r_27), (3, .int r_23), (2, .int r_19), (0, .ref (L 6)), (1, .ref (L (aG g)))]) hx hb dX7_winningMoves_23 hl_29 (by decide) rfl (fun ls_33 hl_33 => ?_)
  clear hl_29
  refine lv_iconst (v := 0) hx hb dX7_winningMoves_25 (by decide) ?_
  refine lv_istore (lv' := [(6, .int 0), (5, .int r_31), (4, .int r_27), (3, .int r_23), (2, .int r_19), (0, .ref (L 6)), (1, .ref (L (aG g)))]) hx hb dX7_winningMoves_26 hl_33 (by decide) rfl (fun ls_34 hl_34 => ?_)
  clear hl_33
  refine lv_iconst (v := 0) hx hb dX7_winningMoves_28 (by decide) ?_
  refine lv_istore (lv' := [(7, .int 0), (6, .int 0), (5, .int r_31), (4, .int r_27), (3, .int r_23), (2, .int r_19), (0, .ref (L 6)), (1, .ref (L (aG g)))]) hx hb dX7_winningMoves_29 hl_34 (by decide) rfl (fun ls_35 hl_35 => ?_)
  clear hl_34
  exact wX7_winningMoves_31 hL F  fuel _ _ _ _ _ _ _ _ hg _ _ _ hO_32 (lv_sub hl_35 [6, 7, 5, 4, 3, 2, 1, 0] rfl) hf
def fX7_difference  (g : Nat) (X : XM) : Option (Int32 × XM) := zi (fX7_spotOf g X) (fun r_2 X_1 => zi (fX7_valueAt 30 r_2 0 X_1) (fun r_5 X_4 => some (r_5, X_4)))
set_option maxHeartbeats 4000000 in
set_option maxRecDepth 100000 in
theorem mX7_difference (l : Launch) (D : va_G) (L : Nat → Nat) (ac : Nat → ClassId) (hL : LL L) (X : XM) (g : Nat) (hg : g < 11) (r0 : Int32) (X0 : XM) (hf : fX7_difference g X = some (r0, X0)) : Ci l yX7_difference wsX7_difference ({ frames := 63, cells := 0, slots := 0, locals := 1927 }) D L ac X [.ref (L 6), .ref (L (aG g))] r0 X0 := by
  refine Met.ofK (cc := cX7_difference) (maxL := 2) (ret := (some .int)) (lv := [(0, .ref (L 6)), (1, .ref (L (aG g)))]) (by decide +kernel) rfl (Nat.le_of_ble_eq_true rfl) rfl ?_
  intro p e s m below meth c F hO ls hl
  obtain ⟨hx, hb, hr, hts, hown, hlocks, hml, hK, hN⟩ := id F
  have hA : ∀ q, fr L q → fr L q := fun q h => h
  unfold fX7_difference at hf
  refine lv_aload_n hx hb dX7_difference_0 rfl (lv_at hl 0 rfl) ?_
  refine lv_aload_n hx hb dX7_difference_1 rfl (lv_at hl 0 rfl) ?_
  refine lv_aload_n hx hb dX7_difference_2 rfl (lv_at hl 1 rfl) ?_
  replace hf := zi_some hf
  obtain ⟨r_2, X_1, hc_1, hf⟩ := hf
  refine k_ai (va_runV (As := [.ref (L (aG g))]) (rest := [.ref (L 6)]) ⟨hx, hb, hml, hown, hts⟩ (mX7_spotOf l D L ac hL _ g hg _ _ hc_1) (cwV 1 hts gX7_difference_X7_spotOf rfl rfl rfl (by decide +kernel) ⟨Nat.le_of_ble_eq_true rfl, Nat.le_of_ble_eq_true rfl⟩) (k_pv (j := 6) hK hN hO (by decide) rfl rfl _) rfl rfl hl.1 rfl (lv_room (Nat.le_of_ble_eq_true rfl)) dX7_difference_3 ⟨Nat.le_of_ble_eq_true rfl, Nat.le_of_ble_eq_true rfl⟩) hA hO (fun H_3 locs_3 hO_3 => ?_)
  clear hO
  refine lv_iconst (v := 0) hx hb dX7_difference_6 (by decide) ?_
  replace hf := zi_some hf
  obtain ⟨r_5, X_4, hc_4, hf⟩ := hf
  refine k_ai (va_runV (As := [.int r_2, .int 0]) (rest := []) ⟨hx, hb, hml, hown, hts⟩ ((mX7_valueAt l D L ac hL 30) _ r_2 0 _ _ hc_4) (cwV 2 hts gX7_difference_X7_valueAt rfl rfl rfl (by decide +kernel) ⟨Nat.le_of_ble_eq_true rfl, Nat.le_of_ble_eq_true rfl⟩) (k_pv (j := 6) hK hN hO_3 (by decide) rfl rfl _) rfl rfl hl.1 rfl (lv_room (Nat.le_of_ble_eq_true rfl)) dX7_difference_7 ⟨Nat.le_of_ble_eq_true rfl, Nat.le_of_ble_eq_true rfl⟩) hA hO_3 (fun H_6 locs_6 hO_6 => ?_)
  clear hO_3
  obtain ⟨rfl, rfl⟩ := Prod.mk.inj (Option.some.inj hf)
  exact e_i hx hb hr hK hN hO_6 hlocks dX7_difference_10
theorem lk_X7_bestMove_c24 : Cond.constant RX7 24 (-100000) ∈ wsX7_bestMove := by decide +kernel
theorem lk_X7_bestMove_iX8 : Cond.initialized RX8 ∈ wsX7_bestMove := by decide +kernel
theorem lk_X7_bestMove_sX8_isIn : Cond.static yX8_isIn ∈ wsX7_bestMove := by decide +kernel
def fX7_bestMove_36   : Nat → Nat → Int32 → Int32 → Int32 → Int32 → Int32 → Int32 → Int32 → XM → Option (Int32 × XM)
  | 0, _, _, _, _, _, _, _, _, _ => none
  | n + 1, g, x2, x3, x4, x5, x6, x7, x8, X => if 20 < x8 then some (x7, X) else zi (fX8_isIn x3 x8 X) (fun r_3 X_2 => if r_3 = 0 then fX7_bestMove_36 n g x2 x3 x4 x5 x6 x7 (x8 + 1) X_2 else zi (fX8_isIn x4 x8 X_2) (fun r_8 X_7 => zi (fX7_valueBy (fX7_valueAt 30) x8 x5 r_8 0 X_7) (fun r_11 X_10 => if r_11 ≤ x6 then fX7_bestMove_36 n g x2 x3 x4 x5 x6 x7 (x8 + 1) X_10 else fX7_bestMove_36 n g x2 x3 x4 x5 r_11 x8 (x8 + 1) X_10)))
set_option maxHeartbeats 4000000 in
set_option maxRecDepth 100000 in
theorem wX7_bestMove_36 {p : Program} {l : Launch} {e : Env} {s : State} {m : MethodId} {args : Array Value} {below : List Frame} {meth : Method} {c : Code} {D : va_G} {L : Nat → Nat} {ac : Nat → ClassId} {r0 : Int32} {X0 : XM} (hL : LL L) (F : Fx p s m args meth c cX7_bestMove 10 (some .int) wsX7_bestMove yX7_bestMove.cls D ac) : ∀ (n : Nat) (g : Nat) (x2 : Int32) (x3 : Int32) (x4 : Int32) (x5 : Int32) (x6 : Int32) (x7 : Int32) (x8 : Int32) (X : XM) (_ : g < 11) (H : Heap) (locs : List Loc) (ls : Array Slot), Oh D L ac X (fr L) s.heap H locs → lv_has ls 10 [(0, .ref (L 6)), (1, .ref (L (aG g))), (2, .int x2), (3, .int x3), (4, .int x4), (5, .int x5), (6, .int x6), (7, .int x7), (8, .int x8)] → fX7_bestMove_36 n g x2 x3 x4 x5 x6 x7 x8 X = some (r0, X0) → W p l e (headSpec wsX7_bestMove ({ frames := 64, cells := 0, slots := 0, locals := 1954 })).room s m args below meth c H locs 0 0 (MQ below (va_Qi (fun (r : Int32) (Y : XM) => r = r0 ∧ Y = X0) (fun (Y : XM) t => St D L ac Y t) (fr L)) args s 0 0 (fr L)) (F0 m 36 ls []) := by
  obtain ⟨hx, hb, hr, hts, hown, hlocks, hml, hK, hN⟩ := id F
  have hA : ∀ q, fr L q → fr L q := fun q h => h
  intro n
  induction n with
  | zero => intro g x2 x3 x4 x5 x6 x7 x8 X h_ H locs ls hO hl hf; simp [fX7_bestMove_36] at hf
  | succ n ih =>
    intro g x2 x3 x4 x5 x6 x7 x8 X hg H locs ls hO hl hf
    rw [fX7_bestMove_36] at hf
    refine lv_iload hx hb dX7_bestMove_36 (lv_at hl 8 rfl) ?_
    refine lv_bipush (v := 20) hx hb dX7_bestMove_38 (by decide) ?_
    refine lv_icmp_gt (tgt := 91) hx hb dX7_bestMove_40 (by decide) (fun c_1 => ?_) (fun c_1 => ?_)
    · rw [if_pos c_1] at hf
      refine lv_iload hx hb dX7_bestMove_91 (lv_at hl 7 rfl) ?_
      obtain ⟨rfl, rfl⟩ := Prod.mk.inj (Option.some.inj hf)
      exact e_i hx hb hr hK hN hO hlocks dX7_bestMove_93
    · rw [if_neg c_1] at hf
      refine lv_iload_n hx hb dX7_bestMove_43 rfl (lv_at hl 3 rfl) ?_
      refine lv_iload hx hb dX7_bestMove_44 (lv_at hl 8 rfl) ?_
      replace hf := zi_some hf
      obtain ⟨r_3, X_2, hc_2, hf⟩ := hf
      refine k_ai (va_runSN (As := [.int x3, .int x8]) (rest := []) ⟨hx, hb, hml, hown, hts⟩ (mX8_isIn l D L ac hL _ x3 x8 _ _ hc_2) ⟨va_cnB 2 hts gX7_bestMove_X8_isIn_n47 rfl rfl rfl (hN _ nx_method_X7_47) (hts _ lk_X7_bestMove_iX8) (by decide +kernel) ⟨Nat.le_of_ble_eq_true rfl, Nat.le_of_ble_eq_true rfl⟩, hts _ lk_X7_bestMove_sX8_isIn, trivial⟩ (k_ps hK hN hO _) rfl rfl hl.1 rfl (lv_room (Nat.le_of_ble_eq_true rfl)) dX7_bestMove_46 ⟨Nat.le_of_ble_eq_true rfl, Nat.le_of_ble_eq_true rfl⟩) hA hO (fun H_4 locs_4 hO_4 => ?_)
      clear hO
      refine lv_if_eq (tgt := 85) hx hb dX7_bestMove_49 (by decide) (fun c_5 => ?_) (fun c_5 => ?_)
      · rw [if_pos c_5] at hf
        subst c_5
        refine lv_iinc (v := x8 + 1) (lv' := [(8, .int (x8 + 1)), (0, .ref (L 6)), (1, .ref (L (aG g))), (2, .int x2), (3, .int x3), (4, .int x4), (5, .int x5), (6, .int x6), (7, .int x7)]) hx hb dX7_bestMove_85 hl (k := 8) rfl rfl (by decide) rfl (fun ls_6 hl_6 => ?_)
        clear hl
        refine lv_goto (tgt := 36) hx hb dX7_bestMove_88 (by decide) ?_
        exact ih _ _ _ _ _ _ _ _ _ hg _ _ _ hO_4 (lv_sub hl_6 [1, 2, 3, 4, 5, 6, 7, 8, 0] rfl) hf
      · rw [if_neg c_5] at hf
        refine lv_aload_n hx hb dX7_bestMove_52 rfl (lv_at hl 0 rfl) ?_
        refine lv_iload hx hb dX7_bestMove_53 (lv_at hl 8 rfl) ?_
        refine lv_iload hx hb dX7_bestMove_55 (lv_at hl 5 rfl) ?_
        refine lv_iload hx hb dX7_bestMove_57 (lv_at hl 4 rfl) ?_
        refine lv_iload hx hb dX7_bestMove_59 (lv_at hl 8 rfl) ?_
        replace hf := zi_some hf
        obtain ⟨r_8, X_7, hc_7, hf⟩ := hf
        refine k_ai (va_runSN (As := [.int x4, .int x8]) (rest := [.int x5, .int x8, .ref (L 6)]) ⟨hx, hb, hml, hown, hts⟩ (mX8_isIn l D L ac hL _ x4 x8 _ _ hc_7) ⟨va_cnB 2 hts gX7_bestMove_X8_isIn_n47 rfl rfl rfl (hN _ nx_method_X7_47) (hts _ lk_X7_bestMove_iX8) (by decide +kernel) ⟨Nat.le_of_ble_eq_true rfl, Nat.le_of_ble_eq_true rfl⟩, hts _ lk_X7_bestMove_sX8_isIn, trivial⟩ (k_ps hK hN hO_4 _) rfl rfl hl.1 rfl (lv_room (Nat.le_of_ble_eq_true rfl)) dX7_bestMove_61 ⟨Nat.le_of_ble_eq_true rfl, Nat.le_of_ble_eq_true rfl⟩) hA hO_4 (fun H_9 locs_9 hO_9 => ?_)
        clear hO_4
        refine lv_iconst (v := 0) hx hb dX7_bestMove_64 (by decide) ?_
        replace hf := zi_some hf
        obtain ⟨r_11, X_10, hc_10, hf⟩ := hf
        refine k_ai (va_runV (As := [.int x8, .int x5, .int r_8, .int 0]) (rest := []) ⟨hx, hb, hml, hown, hts⟩ ((mX7_valueBy l D L ac hL 30 (fX7_valueAt 30) (mX7_valueAt l D L ac hL 30)) _ x8 x5 r_8 0 _ _ hc_10) (cwV 4 hts gX7_bestMove_X7_valueBy rfl rfl rfl (by decide +kernel) ⟨Nat.le_of_ble_eq_true rfl, Nat.le_of_ble_eq_true rfl⟩) (k_pv (j := 6) hK hN hO_9 (by decide) rfl rfl _) rfl rfl hl.1 rfl (lv_room (Nat.le_of_ble_eq_true rfl)) dX7_bestMove_65 ⟨Nat.le_of_ble_eq_true rfl, Nat.le_of_ble_eq_true rfl⟩) hA hO_9 (fun H_12 locs_12 hO_12 => ?_)
        clear hO_9
        refine lv_istore (lv' := [(9, .int r_11), (0, .ref (L 6)), (1, .ref (L (aG g))), (2, .int x2), (3, .int x3), (4, .int x4), (5, .int x5), (6, .int x6), (7, .int x7), (8, .int x8)]) hx hb dX7_bestMove_68 hl (by decide) rfl (fun ls_13 hl_13 => ?_)
        clear hl
        refine lv_iload hx hb dX7_bestMove_70 (lv_at hl_13 0 rfl) ?_
        refine lv_iload hx hb dX7_bestMove_72 (lv_at hl_13 7 rfl) ?_
        refine lv_icmp_le (tgt := 85) hx hb dX7_bestMove_74 (by decide) (fun c_14 => ?_) (fun c_14 => ?_)
        · rw [if_pos c_14] at hf
          refine lv_iinc (v := x8 + 1) (lv' := [(8, .int (x8 + 1)), (9, .int r_11), (0, .ref (L 6)), (1, .ref (L (aG g))), (2, .int x2), (3, .int x3), (4, .int x4), (5, .int x5), (6, .int x6), (7, .int x7)]) hx hb dX7_bestMove_85 hl_13 (k := 9) rfl rfl (by decide) rfl (fun ls_15 hl_15 => ?_)
          clear hl_13
          refine lv_goto (tgt := 36) hx hb dX7_bestMove_88 (by decide) ?_
          exact ih _ _ _ _ _ _ _ _ _ hg _ _ _ hO_12 (lv_sub hl_15 [2, 3, 4, 5, 6, 7, 8, 9, 0] rfl) hf
        · rw [if_neg c_14] at hf
          refine lv_iload hx hb dX7_bestMove_77 (lv_at hl_13 0 rfl) ?_
          refine lv_istore (lv' := [(6, .int r_11), (9, .int r_11), (0, .ref (L 6)), (1, .ref (L (aG g))), (2, .int x2), (3, .int x3), (4, .int x4), (5, .int x5), (7, .int x7), (8, .int x8)]) hx hb dX7_bestMove_79 hl_13 (by decide) rfl (fun ls_16 hl_16 => ?_)
          clear hl_13
          refine lv_iload hx hb dX7_bestMove_81 (lv_at hl_16 9 rfl) ?_
          refine lv_istore (lv' := [(7, .int x8), (6, .int r_11), (9, .int r_11), (0, .ref (L 6)), (1, .ref (L (aG g))), (2, .int x2), (3, .int x3), (4, .int x4), (5, .int x5), (8, .int x8)]) hx hb dX7_bestMove_83 hl_16 (by decide) rfl (fun ls_17 hl_17 => ?_)
          clear hl_16
          refine lv_iinc (v := x8 + 1) (lv' := [(8, .int (x8 + 1)), (7, .int x8), (6, .int r_11), (9, .int r_11), (0, .ref (L 6)), (1, .ref (L (aG g))), (2, .int x2), (3, .int x3), (4, .int x4), (5, .int x5)]) hx hb dX7_bestMove_85 hl_17 (k := 9) rfl rfl (by decide) rfl (fun ls_18 hl_18 => ?_)
          clear hl_17
          refine lv_goto (tgt := 36) hx hb dX7_bestMove_88 (by decide) ?_
          exact ih _ _ _ _ _ _ _ _ _ hg _ _ _ hO_12 (lv_sub hl_18 [4, 5, 6, 7, 8, 9, 2, 1, 0] rfl) hf
def fX7_bestMove  (g : Nat) (X : XM) : Option (Int32 × XM) := zi (fX7_spotOf g X) (fun r_20 X_19 => zi (fX7_movesAt r_20 X_19) (fun r_24 X_23 => zi (fX7_poisonAt r_20 X_23) (fun r_28 X_27 => zi (fX7_turned r_20 X_27) (fun r_32 X_31 => fX7_bestMove_36 fuel g r_20 r_24 r_28 r_32 (-100000) (-6) 0 X_31))))
set_option maxHeartbeats 4000000 in
set_option maxRecDepth 100000 in
theorem mX7_bestMove (l : Launch) (D : va_G) (L : Nat → Nat) (ac : Nat → ClassId) (hL : LL L) (X : XM) (g : Nat) (hg : g < 11) (r0 : Int32) (X0 : XM) (hf : fX7_bestMove g X = some (r0, X0)) : Ci l yX7_bestMove wsX7_bestMove ({ frames := 64, cells := 0, slots := 0, locals := 1954 }) D L ac X [.ref (L 6), .ref (L (aG g))] r0 X0 := by
  refine Met.ofK (cc := cX7_bestMove) (maxL := 10) (ret := (some .int)) (lv := [(0, .ref (L 6)), (1, .ref (L (aG g)))]) (by decide +kernel) rfl (Nat.le_of_ble_eq_true rfl) rfl ?_
  intro p e s m below meth c F hO ls hl
  obtain ⟨hx, hb, hr, hts, hown, hlocks, hml, hK, hN⟩ := id F
  have hA : ∀ q, fr L q → fr L q := fun q h => h
  unfold fX7_bestMove at hf
  refine lv_aload_n hx hb dX7_bestMove_0 rfl (lv_at hl 0 rfl) ?_
  refine lv_aload_n hx hb dX7_bestMove_1 rfl (lv_at hl 1 rfl) ?_
  replace hf := zi_some hf
  obtain ⟨r_20, X_19, hc_19, hf⟩ := hf
  refine k_ai (va_runV (As := [.ref (L (aG g))]) (rest := []) ⟨hx, hb, hml, hown, hts⟩ (mX7_spotOf l D L ac hL _ g hg _ _ hc_19) (cwV 1 hts gX7_bestMove_X7_spotOf rfl rfl rfl (by decide +kernel) ⟨Nat.le_of_ble_eq_true rfl, Nat.le_of_ble_eq_true rfl⟩) (k_pv (j := 6) hK hN hO (by decide) rfl rfl _) rfl rfl hl.1 rfl (lv_room (Nat.le_of_ble_eq_true rfl)) dX7_bestMove_2 ⟨Nat.le_of_ble_eq_true rfl, Nat.le_of_ble_eq_true rfl⟩) hA hO (fun H_21 locs_21 hO_21 => ?_)
  clear hO
  refine lv_istore_n (lv' := [(2, .int r_20), (0, .ref (L 6)), (1, .ref (L (aG g)))]) hx hb dX7_bestMove_5 rfl hl (by decide) rfl (fun ls_22 hl_22 => ?_)
  clear hl
  refine lv_aload_n hx hb dX7_bestMove_6 rfl (lv_at hl_22 1 rfl) ?_
  refine lv_iload_n hx hb dX7_bestMove_7 rfl (lv_at hl_22 0 rfl) ?_
  replace hf := zi_some hf
  obtain ⟨r_24, X_23, hc_23, hf⟩ := hf
  refine k_ai (va_runV (As := [.int r_20]) (rest := []) ⟨hx, hb, hml, hown, hts⟩ (mX7_movesAt l D L ac hL _ r_20 _ _ hc_23) (cwV 1 hts gX7_bestMove_X7_movesAt rfl rfl rfl (by decide +kernel) ⟨Nat.le_of_ble_eq_true rfl, Nat.le_of_ble_eq_true rfl⟩) (k_pv (j := 6) hK hN hO_21 (by decide) rfl rfl _) rfl rfl hl_22.1 rfl (lv_room (Nat.le_of_ble_eq_true rfl)) dX7_bestMove_8 ⟨Nat.le_of_ble_eq_true rfl, Nat.le_of_ble_eq_true rfl⟩) hA hO_21 (fun H_25 locs_25 hO_25 => ?_)
  clear hO_21
  refine lv_istore_n (lv' := [(3, .int r_24), (2, .int r_20), (0, .ref (L 6)), (1, .ref (L (aG g)))]) hx hb dX7_bestMove_11 rfl hl_22 (by decide) rfl (fun ls_26 hl_26 => ?_)
  clear hl_22
  refine lv_aload_n hx hb dX7_bestMove_12 rfl (lv_at hl_26 2 rfl) ?_
  refine lv_iload_n hx hb dX7_bestMove_13 rfl (lv_at hl_26 1 rfl) ?_
  replace hf := zi_some hf
  obtain ⟨r_28, X_27, hc_27, hf⟩ := hf
  refine k_ai (va_runV (As := [.int r_20]) (rest := []) ⟨hx, hb, hml, hown, hts⟩ (mX7_poisonAt l D L ac hL _ r_20 _ _ hc_27) (cwV 1 hts gX7_bestMove_X7_poisonAt rfl rfl rfl (by decide +kernel) ⟨Nat.le_of_ble_eq_true rfl, Nat.le_of_ble_eq_true rfl⟩) (k_pv (j := 6) hK hN hO_25 (by decide) rfl rfl _) rfl rfl hl_26.1 rfl (lv_room (Nat.le_of_ble_eq_true rfl)) dX7_bestMove_14 ⟨Nat.le_of_ble_eq_true rfl, Nat.le_of_ble_eq_true rfl⟩) hA hO_25 (fun H_29 locs_29 hO_29 => ?_)
  clear hO_25
  refine lv_istore (lv' := [(4, .int r_28), (3, .int r_24), (2, .int r_20), (0, .ref (L 6)), (1, .ref (L (aG g)))]) hx hb dX7_bestMove_17 hl_26 (by decide) rfl (fun ls_30 hl_30 => ?_)
  clear hl_26
  refine lv_iload_n hx hb dX7_bestMove_19 rfl (lv_at hl_30 2 rfl) ?_
  replace hf := zi_some hf
  obtain ⟨r_32, X_31, hc_31, hf⟩ := hf
  refine k_ai (va_runS (As := [.int r_20]) (rest := []) ⟨hx, hb, hml, hown, hts⟩ (mX7_turned l D L ac hL _ r_20 _ _ hc_31) (va_cwS 1 hts gX7_bestMove_X7_turned rfl rfl rfl (by decide +kernel) ⟨Nat.le_of_ble_eq_true rfl, Nat.le_of_ble_eq_true rfl⟩) (k_ps hK hN hO_29 _) rfl rfl hl_30.1 rfl (lv_room (Nat.le_of_ble_eq_true rfl)) dX7_bestMove_20 ⟨Nat.le_of_ble_eq_true rfl, Nat.le_of_ble_eq_true rfl⟩) hA hO_29 (fun H_33 locs_33 hO_33 => ?_)
  clear hO_29
  refine lv_istore (lv' := [(5, .int r_32), (4, .int r_28), (3, .int r_24), (2, .int r_20), (0, .ref (L 6)), (1, .ref (L (aG g)))]) hx hb dX7_bestMove_23 hl_30 (by decide) rfl (fun ls_34 hl_34 => ?_)
  clear hl_30
  refine lv_ldc (v := (-100000)) hx hb hown (hts _ lk_X7_bestMove_c24) dX7_bestMove_25 ?_
  refine lv_istore (lv' := [(6, .int (-100000)), (5, .int r_32), (4, .int r_28), (3, .int r_24), (2, .int r_20), (0, .ref (L 6)), (1, .ref (L (aG g)))]) hx hb dX7_bestMove_27 hl_34 (by decide) rfl (fun ls_35 hl_35 => ?_)
  clear hl_34
  refine lv_bipush (v := (-6)) hx hb dX7_bestMove_29 (by decide) ?_
  refine lv_istore (lv' := [(7, .int (-6)), (6, .int (-100000)), (5, .int r_32), (4, .int r_28), (3, .int r_24), (2, .int r_20), (0, .ref (L 6)), (1, .ref (L (aG g)))]) hx hb dX7_bestMove_31 hl_35 (by decide) rfl (fun ls_36 hl_36 => ?_)
  clear hl_35
  refine lv_iconst (v := 0) hx hb dX7_bestMove_33 (by decide) ?_
  refine lv_istore (lv' := [(8, .int 0), (7, .int (-6)), (6, .int (-100000)), (5, .int r_32), (4, .int r_28), (3, .int r_24), (2, .int r_20), (0, .ref (L 6)), (1, .ref (L (aG g)))]) hx hb dX7_bestMove_34 hl_36 (by decide) rfl (fun ls_37 hl_37 => ?_)
  clear hl_36
  exact wX7_bestMove_36 hL F  fuel _ _ _ _ _ _ _ _ _ hg _ _ _ hO_33 (lv_sub hl_37 [7, 8, 6, 5, 4, 3, 2, 1, 0] rfl) hf
