/-! ANSWERS THAT ARE LONG -/
abbrev Cl (l : Launch) (y : MethodName) (ws : List Cond) (rm : Room) (D : va_G) (L : Nat → Nat) (ac : Nat → ClassId) (X : XM) (av : List Value) (r0 : Int64) (X0 : XM) : Prop := Met l y ws rm (va_Pc av (St D L ac X)) (va_Ql (fun (r : Int64) (Y : XM) => r = r0 ∧ Y = X0) (fun (Y : XM) t => St D L ac Y t) (fr L)) 0 0 (fr L)
section KL
variable {p : Program} {l : Launch} {e : Env} {R : Room} {s : State} {m : MethodId} {args : Array Value} {below : List Frame} {meth : Method} {c : Code} {H : Heap} {locs : List Loc} {cells slots : Nat} {Q : State → Prop}
variable {cc : ByteArray} {pc : Nat} {ls : Array Slot} {rest st0 : List Value} {D : va_G} {L : Nat → Nat} {ac : Nat → ClassId} {X X0 : XM} {A : Nat → Prop} {a : Array Value}
theorem k_al {r0 : Int64} (hr : va_Run p l e R s m args below meth c H locs cells slots 0 0 (F0 m pc ls st0) rest (va_Ql (fun (r : Int64) (Y : XM) => r = r0 ∧ Y = X0) (fun (Y : XM) t => St D L ac Y t) (fr L) a) (fr L)) (hA : ∀ q, fr L q → A q) (hO : Oh D L ac X A s.heap H locs)
    (kk : ∀ (H1 : Heap) (locs1 : List Loc), Oh D L ac X0 A s.heap H1 locs1 → W p l e R s m args below meth c H1 locs1 cells slots Q (F0 m (pc + 3) ls (.long r0 :: rest))) : W p l e R s m args below meth c H locs cells slots Q (F0 m pc ls st0) := by
  refine va_calll hr hO.2.2 (fun q _ h => hA q h) hA (fun r u t H1 locs1 ht hvm hw hB hz hk hS => ?_)
  obtain ⟨rfl, rfl⟩ := hw
  obtain ⟨b1, b2, -, -⟩ := hB
  rw [ht] at b1
  exact kk H1 locs1 ⟨b1, b2, hS⟩
theorem e_l (hx : p.tables.exec = Jvm.exec) (hb : c.code = cc) (hr : meth.sig.returnType = some .long) {v : Int64} (hK : va_K D vwCl (tys ac) s) (hN : NX s) (hO : Oh D L ac X (fr L) s.heap H locs) (hlocks : meth.locks = false) (hdg : decode cc pc = .ok (.lreturn, 1)) : W p l e R s m args below meth c H locs cells slots (MQ below (va_Ql (fun (r : Int64) (Y : XM) => r = v ∧ Y = X) (fun (Y : XM) t => St D L ac Y t) (fr L)) args s cells slots (fr L)) (F0 m pc ls [.long v]) :=
  W.lret hx hb hr (fun t ht hW => ⟨⟨v, X, rfl, ⟨rfl, rfl⟩, St.of hO hK hN ht hW⟩, hO.2.2.F ht⟩) hO.2.2.2.2 hdg hlocks
end KL
theorem lk_L_low_c7 : Cond.constant RL 7 (2147483647) ∈ wsL_low := by decide +kernel
def fL_low  (a1 : Int32) (a2 : Int32) (X : XM) : Option (Int32 × XM) := zz a2 (some (o_rem (a1 &&& 2147483647) a2, X))
set_option maxHeartbeats 4000000 in
set_option maxRecDepth 100000 in
theorem mL_low (l : Launch) (D : va_G) (L : Nat → Nat) (ac : Nat → ClassId) (hL : LL L) (X : XM) (a1 : Int32) (a2 : Int32) (r0 : Int32) (X0 : XM) (hf : fL_low a1 a2 X = some (r0, X0)) : Ci l yL_low wsL_low ({ frames := 0, cells := 0, slots := 0, locals := 0 }) D L ac X [.int a1, .int a2] r0 X0 := by
  refine Met.ofK (cc := cL_low) (maxL := 2) (ret := (some .int)) (lv := [(0, .int a1), (1, .int a2)]) (by decide +kernel) rfl (Nat.le_of_ble_eq_true rfl) rfl ?_
  intro p e s m below meth c F hO ls hl
  obtain ⟨hx, hb, hr, hts, hown, hlocks, hml, hK, hN⟩ := id F
  have hA : ∀ q, fr L q → fr L q := fun q h => h
  unfold fL_low at hf
  refine lv_iload_n hx hb dL_low_0 rfl (lv_at hl 0 rfl) ?_
  refine lv_ldc (v := 2147483647) hx hb hown (hts _ lk_L_low_c7) dL_low_1 ?_
  refine lv_iand hx hb dL_low_3 ?_
  refine lv_iload_n hx hb dL_low_4 rfl (lv_at hl 1 rfl) ?_
  replace hf := zz_some hf
  obtain ⟨hz_1, hf⟩ := hf
  refine lv_irem hx hb dL_low_5 hz_1 ?_
  obtain ⟨rfl, rfl⟩ := Prod.mk.inj (Option.some.inj hf)
  exact e_i hx hb hr hK hN hO hlocks dL_low_6
theorem lk_L_told_c10 : Cond.constantLong RL 10 (31) ∈ wsL_told := by decide +kernel
theorem lk_L_told_c8 : Cond.constantLong RL 8 (3) ∈ wsL_told := by decide +kernel
def fL_told_45  (k33 : Int64 → Int32 → XM → Option (Int64 × XM)) : Nat → Int64 → Int32 → Int32 → XM → Option (Int64 × XM)
  | 0, _, _, _, _ => none
  | n + 1, x1, x3, x4, X => if 5 ≤ x4 then k33 x1 (x3 + 1) X else zi (fX8_ofPile x3 x4 X) (fun r_4 X_3 => zl (((31 : Int64) * x1) + (Int32.toInt64 r_4)) (fun v_6 => fL_told_45 k33 n v_6 x3 (x4 + 1) X_3))
set_option maxHeartbeats 4000000 in
set_option maxRecDepth 100000 in
theorem wL_told_45 {p : Program} {l : Launch} {e : Env} {s : State} {m : MethodId} {args : Array Value} {below : List Frame} {meth : Method} {c : Code} {D : va_G} {L : Nat → Nat} {ac : Nat → ClassId} {r0 : Int64} {X0 : XM} (hL : LL L) (F : Fx p s m args meth c cL_told 5 (some .long) wsL_told yL_told.cls D ac) (k33 : Int64 → Int32 → XM → Option (Int64 × XM)) (hk33 : ∀ (x1 : Int64) (x3 : Int32) (X : XM) (H : Heap) (locs : List Loc) (ls : Array Slot), Oh D L ac X (fr L) s.heap H locs → lv_has ls 5 [(0, .ref (L 0)), (1, .long x1), (3, .int x3)] → k33 x1 x3 X = some (r0, X0) → W p l e (headSpec wsL_told ({ frames := 6, cells := 0, slots := 0, locals := 131 })).room s m args below meth c H locs 0 0 (MQ below (va_Ql (fun (r : Int64) (Y : XM) => r = r0 ∧ Y = X0) (fun (Y : XM) t => St D L ac Y t) (fr L)) args s 0 0 (fr L)) (F0 m 33 ls [])) : ∀ (n : Nat) (x1 : Int64) (x3 : Int32) (x4 : Int32) (X : XM) (H : Heap) (locs : List Loc) (ls : Array Slot), Oh D L ac X (fr L) s.heap H locs → lv_has ls 5 [(0, .ref (L 0)), (1, .long x1), (3, .int x3), (4, .int x4)] → fL_told_45 k33 n x1 x3 x4 X = some (r0, X0) → W p l e (headSpec wsL_told ({ frames := 6, cells := 0, slots := 0, locals := 131 })).room s m args below meth c H locs 0 0 (MQ below (va_Ql (fun (r : Int64) (Y : XM) => r = r0 ∧ Y = X0) (fun (Y : XM) t => St D L ac Y t) (fr L)) args s 0 0 (fr L)) (F0 m 45 ls []) := by
  obtain ⟨hx, hb, hr, hts, hown, hlocks, hml, hK, hN⟩ := id F
  have hA : ∀ q, fr L q → fr L q := fun q h => h
  intro n
  induction n with
  | zero => intro x1 x3 x4 X H locs ls hO hl hf; simp [fL_told_45] at hf
  | succ n ih =>
    intro x1 x3 x4 X H locs ls hO hl hf
    rw [fL_told_45] at hf
    refine lv_iload hx hb dL_told_45 (lv_at hl 3 rfl) ?_
    refine lv_iconst (v := 5) hx hb dL_told_47 (by decide) ?_
    refine lv_icmp_ge (tgt := 72) hx hb dL_told_48 (by decide) (fun c_1 => ?_) (fun c_1 => ?_)
    · rw [if_pos c_1] at hf
      refine lv_iinc (v := x3 + 1) (lv' := [(3, .int (x3 + 1)), (0, .ref (L 0)), (1, .long x1), (4, .int x4)]) hx hb dL_told_72 hl (k := 2) rfl rfl (by decide) rfl (fun ls_2 hl_2 => ?_)
      clear hl
      refine lv_goto (tgt := 33) hx hb dL_told_75 (by decide) ?_
      exact hk33 _ _ _  _ _ _ hO (lv_sub hl_2 [1, 2, 0] rfl) hf
    · rw [if_neg c_1] at hf
      refine lv_ldc2 (v := 31) hx hb hown (hts _ lk_L_told_c10) dL_told_51 ?_
      refine lv_lload_n hx hb dL_told_54 rfl (lv_at hl 1 rfl) ?_
      refine lv_lmul hx hb dL_told_55 ?_
      refine lv_aload_n hx hb dL_told_56 rfl (lv_at hl 0 rfl) ?_
      refine lv_iload_n hx hb dL_told_57 rfl (lv_at hl 2 rfl) ?_
      refine lv_iload hx hb dL_told_58 (lv_at hl 3 rfl) ?_
      replace hf := zi_some hf
      obtain ⟨r_4, X_3, hc_3, hf⟩ := hf
      refine k_ai (va_runV (As := [.int x3, .int x4]) (rest := [.long ((31 : Int64) * x1)]) ⟨hx, hb, hml, hown, hts⟩ (mX8_ofPile l D L ac hL _ x3 x4 _ _ hc_3) (cwV 2 hts gL_told_X8_ofPile rfl rfl rfl (by decide +kernel) ⟨Nat.le_of_ble_eq_true rfl, Nat.le_of_ble_eq_true rfl⟩) (k_pv (j := 0) hK hN hO (by decide) rfl rfl _) rfl rfl hl.1 rfl (lv_room (Nat.le_of_ble_eq_true rfl)) dL_told_60 ⟨Nat.le_of_ble_eq_true rfl, Nat.le_of_ble_eq_true rfl⟩) hA hO (fun H_5 locs_5 hO_5 => ?_)
      clear hO
      refine lv_i2l hx hb dL_told_63 rfl ?_
      refine lv_ladd hx hb dL_told_64 ?_
      replace hf := zl_some hf
      obtain ⟨v_6, hv_6, hf⟩ := hf
      refine lv_topL hv_6 ?_
      refine lv_lstore_n (lv' := [(1, .long v_6), (0, .ref (L 0)), (3, .int x3), (4, .int x4)]) hx hb dL_told_65 rfl hl (by decide) rfl (fun ls_7 hl_7 => ?_)
      clear hl
      refine lv_iinc (v := x4 + 1) (lv' := [(4, .int (x4 + 1)), (1, .long v_6), (0, .ref (L 0)), (3, .int x3)]) hx hb dL_told_66 hl_7 (k := 3) rfl rfl (by decide) rfl (fun ls_8 hl_8 => ?_)
      clear hl_7
      refine lv_goto (tgt := 45) hx hb dL_told_69 (by decide) ?_
      exact ih _ _ _ _  _ _ _ hO_5 (lv_sub hl_8 [2, 1, 3, 0] rfl) hf
def fL_told_80   : Nat → Int64 → Int32 → XM → Option (Int64 × XM)
  | 0, _, _, _ => none
  | n + 1, x1, x3, X => if 6 ≤ x3 then zi (fX8_moves X) (fun r_11 X_10 => some (((31 : Int64) * x1) + (Int32.toInt64 r_11), X_10)) else zi (fX8_ofPlayer (x3 / 3) (o_rem x3 3) X) (fun r_14 X_13 => zl (((31 : Int64) * x1) + (Int32.toInt64 r_14)) (fun v_16 => fL_told_80 n v_16 (x3 + 1) X_13))
set_option maxHeartbeats 4000000 in
set_option maxRecDepth 100000 in
theorem wL_told_80 {p : Program} {l : Launch} {e : Env} {s : State} {m : MethodId} {args : Array Value} {below : List Frame} {meth : Method} {c : Code} {D : va_G} {L : Nat → Nat} {ac : Nat → ClassId} {r0 : Int64} {X0 : XM} (hL : LL L) (F : Fx p s m args meth c cL_told 5 (some .long) wsL_told yL_told.cls D ac) : ∀ (n : Nat) (x1 : Int64) (x3 : Int32) (X : XM) (H : Heap) (locs : List Loc) (ls : Array Slot), Oh D L ac X (fr L) s.heap H locs → lv_has ls 5 [(0, .ref (L 0)), (1, .long x1), (3, .int x3)] → fL_told_80 n x1 x3 X = some (r0, X0) → W p l e (headSpec wsL_told ({ frames := 6, cells := 0, slots := 0, locals := 131 })).room s m args below meth c H locs 0 0 (MQ below (va_Ql (fun (r : Int64) (Y : XM) => r = r0 ∧ Y = X0) (fun (Y : XM) t => St D L ac Y t) (fr L)) args s 0 0 (fr L)) (F0 m 80 ls []) := by
  obtain ⟨hx, hb, hr, hts, hown, hlocks, hml, hK, hN⟩ := id F
  have hA : ∀ q, fr L q → fr L q := fun q h => h
  intro n
  induction n with
  | zero => intro x1 x3 X H locs ls hO hl hf; simp [fL_told_80] at hf
  | succ n ih =>
    intro x1 x3 X H locs ls hO hl hf
    rw [fL_told_80] at hf
    refine lv_iload_n hx hb dL_told_80 rfl (lv_at hl 2 rfl) ?_
    refine lv_bipush (v := 6) hx hb dL_told_81 (by decide) ?_
    refine lv_icmp_ge (tgt := 110) hx hb dL_told_83 (by decide) (fun c_9 => ?_) (fun c_9 => ?_)
    · rw [if_pos c_9] at hf
      refine lv_ldc2 (v := 31) hx hb hown (hts _ lk_L_told_c10) dL_told_110 ?_
      refine lv_lload_n hx hb dL_told_113 rfl (lv_at hl 1 rfl) ?_
      refine lv_lmul hx hb dL_told_114 ?_
      refine lv_aload_n hx hb dL_told_115 rfl (lv_at hl 0 rfl) ?_
      replace hf := zi_some hf
      obtain ⟨r_11, X_10, hc_10, hf⟩ := hf
      refine k_ai (va_runV (As := []) (rest := [.long ((31 : Int64) * x1)]) ⟨hx, hb, hml, hown, hts⟩ (mX8_moves l D L ac hL _  _ _ hc_10) (cwV 0 hts gL_told_X8_moves rfl rfl rfl (by decide +kernel) ⟨Nat.le_of_ble_eq_true rfl, Nat.le_of_ble_eq_true rfl⟩) (k_pv (j := 0) hK hN hO (by decide) rfl rfl _) rfl rfl hl.1 rfl (lv_room (Nat.le_of_ble_eq_true rfl)) dL_told_116 ⟨Nat.le_of_ble_eq_true rfl, Nat.le_of_ble_eq_true rfl⟩) hA hO (fun H_12 locs_12 hO_12 => ?_)
      clear hO
      refine lv_i2l hx hb dL_told_119 rfl ?_
      refine lv_ladd hx hb dL_told_120 ?_
      obtain ⟨rfl, rfl⟩ := Prod.mk.inj (Option.some.inj hf)
      exact e_l hx hb hr hK hN hO_12 hlocks dL_told_121
    · rw [if_neg c_9] at hf
      refine lv_ldc2 (v := 31) hx hb hown (hts _ lk_L_told_c10) dL_told_86 ?_
      refine lv_lload_n hx hb dL_told_89 rfl (lv_at hl 1 rfl) ?_
      refine lv_lmul hx hb dL_told_90 ?_
      refine lv_aload_n hx hb dL_told_91 rfl (lv_at hl 0 rfl) ?_
      refine lv_iload_n hx hb dL_told_92 rfl (lv_at hl 2 rfl) ?_
      refine lv_iconst (v := 3) hx hb dL_told_93 (by decide) ?_
      refine lv_idiv hx hb dL_told_94 (by decide) ?_
      refine lv_iload_n hx hb dL_told_95 rfl (lv_at hl 2 rfl) ?_
      refine lv_iconst (v := 3) hx hb dL_told_96 (by decide) ?_
      refine lv_irem hx hb dL_told_97 (by decide) ?_
      replace hf := zi_some hf
      obtain ⟨r_14, X_13, hc_13, hf⟩ := hf
      refine k_ai (va_runV (As := [.int (x3 / 3), .int (o_rem x3 3)]) (rest := [.long ((31 : Int64) * x1)]) ⟨hx, hb, hml, hown, hts⟩ (mX8_ofPlayer l D L ac hL _ (x3 / 3) (o_rem x3 3) _ _ hc_13) (cwV 2 hts gL_told_X8_ofPlayer rfl rfl rfl (by decide +kernel) ⟨Nat.le_of_ble_eq_true rfl, Nat.le_of_ble_eq_true rfl⟩) (k_pv (j := 0) hK hN hO (by decide) rfl rfl _) rfl rfl hl.1 rfl (lv_room (Nat.le_of_ble_eq_true rfl)) dL_told_98 ⟨Nat.le_of_ble_eq_true rfl, Nat.le_of_ble_eq_true rfl⟩) hA hO (fun H_15 locs_15 hO_15 => ?_)
      clear hO
      refine lv_i2l hx hb dL_told_101 rfl ?_
      refine lv_ladd hx hb dL_told_102 ?_
      replace hf := zl_some hf
      obtain ⟨v_16, hv_16, hf⟩ := hf
      refine lv_topL hv_16 ?_
      refine lv_lstore_n (lv' := [(1, .long v_16), (0, .ref (L 0)), (3, .int x3)]) hx hb dL_told_103 rfl hl (by decide) rfl (fun ls_17 hl_17 => ?_)
      clear hl
      refine lv_iinc (v := x3 + 1) (lv' := [(3, .int (x3 + 1)), (1, .long v_16), (0, .ref (L 0))]) hx hb dL_told_104 hl_17 (k := 2) rfl rfl (by decide) rfl (fun ls_18 hl_18 => ?_)
      clear hl_17
      refine lv_goto (tgt := 80) hx hb dL_told_107 (by decide) ?_
      exact ih _ _ _  _ _ _ hO_15 (lv_sub hl_18 [2, 1, 0] rfl) hf
def fL_told_33   : Nat → Int64 → Int32 → XM → Option (Int64 × XM)
  | 0, _, _, _ => none
  | n + 1, x1, x3, X => zi (fX8_count 0 X) (fun r_20 X_19 => if r_20 ≤ x3 then fL_told_80 fuel x1 0 X_19 else fL_told_45 (fL_told_33 n) fuel x1 x3 0 X_19)
set_option maxHeartbeats 4000000 in
set_option maxRecDepth 100000 in
theorem wL_told_33 {p : Program} {l : Launch} {e : Env} {s : State} {m : MethodId} {args : Array Value} {below : List Frame} {meth : Method} {c : Code} {D : va_G} {L : Nat → Nat} {ac : Nat → ClassId} {r0 : Int64} {X0 : XM} (hL : LL L) (F : Fx p s m args meth c cL_told 5 (some .long) wsL_told yL_told.cls D ac) : ∀ (n : Nat) (x1 : Int64) (x3 : Int32) (X : XM) (H : Heap) (locs : List Loc) (ls : Array Slot), Oh D L ac X (fr L) s.heap H locs → lv_has ls 5 [(0, .ref (L 0)), (1, .long x1), (3, .int x3)] → fL_told_33 n x1 x3 X = some (r0, X0) → W p l e (headSpec wsL_told ({ frames := 6, cells := 0, slots := 0, locals := 131 })).room s m args below meth c H locs 0 0 (MQ below (va_Ql (fun (r : Int64) (Y : XM) => r = r0 ∧ Y = X0) (fun (Y : XM) t => St D L ac Y t) (fr L)) args s 0 0 (fr L)) (F0 m 33 ls []) := by
  obtain ⟨hx, hb, hr, hts, hown, hlocks, hml, hK, hN⟩ := id F
  have hA : ∀ q, fr L q → fr L q := fun q h => h
  intro n
  induction n with
  | zero => intro x1 x3 X H locs ls hO hl hf; simp [fL_told_33] at hf
  | succ n ih =>
    intro x1 x3 X H locs ls hO hl hf
    rw [fL_told_33] at hf
    refine lv_iload_n hx hb dL_told_33 rfl (lv_at hl 2 rfl) ?_
    refine lv_aload_n hx hb dL_told_34 rfl (lv_at hl 0 rfl) ?_
    refine lv_iconst (v := 0) hx hb dL_told_35 (by decide) ?_
    replace hf := zi_some hf
    obtain ⟨r_20, X_19, hc_19, hf⟩ := hf
    refine k_ai (va_runV (As := [.int 0]) (rest := [.int x3]) ⟨hx, hb, hml, hown, hts⟩ (mX8_count l D L ac hL _ 0 _ _ hc_19) (cwV 1 hts gL_told_X8_count rfl rfl rfl (by decide +kernel) ⟨Nat.le_of_ble_eq_true rfl, Nat.le_of_ble_eq_true rfl⟩) (k_pv (j := 0) hK hN hO (by decide) rfl rfl _) rfl rfl hl.1 rfl (lv_room (Nat.le_of_ble_eq_true rfl)) dL_told_36 ⟨Nat.le_of_ble_eq_true rfl, Nat.le_of_ble_eq_true rfl⟩) hA hO (fun H_21 locs_21 hO_21 => ?_)
    clear hO
    refine lv_icmp_ge (tgt := 78) hx hb dL_told_39 (by decide) (fun c_22 => ?_) (fun c_22 => ?_)
    · rw [if_pos c_22] at hf
      refine lv_iconst (v := 0) hx hb dL_told_78 (by decide) ?_
      refine lv_istore_n (lv' := [(3, .int 0), (0, .ref (L 0)), (1, .long x1)]) hx hb dL_told_79 rfl hl (by decide) rfl (fun ls_23 hl_23 => ?_)
      clear hl
      exact wL_told_80 hL F  fuel _ _ _  _ _ _ hO_21 (lv_sub hl_23 [1, 2, 0] rfl) hf
    · rw [if_neg c_22] at hf
      refine lv_iconst (v := 0) hx hb dL_told_42 (by decide) ?_
      refine lv_istore (lv' := [(4, .int 0), (0, .ref (L 0)), (1, .long x1), (3, .int x3)]) hx hb dL_told_43 hl (by decide) rfl (fun ls_24 hl_24 => ?_)
      clear hl
      exact wL_told_45 hL F _ ih fuel _ _ _ _  _ _ _ hO_21 (lv_sub hl_24 [1, 2, 3, 0] rfl) hf
def fL_told_6   : Nat → Int64 → Int32 → XM → Option (Int64 × XM)
  | 0, _, _, _ => none
  | n + 1, x1, x3, X => if 9 ≤ x3 then fL_told_33 fuel x1 0 X else zi (fX8_count x3 X) (fun r_28 X_27 => zl (((31 : Int64) * x1) + (Int32.toInt64 r_28)) (fun v_30 => fL_told_6 n v_30 (x3 + 1) X_27))
set_option maxHeartbeats 4000000 in
set_option maxRecDepth 100000 in
theorem wL_told_6 {p : Program} {l : Launch} {e : Env} {s : State} {m : MethodId} {args : Array Value} {below : List Frame} {meth : Method} {c : Code} {D : va_G} {L : Nat → Nat} {ac : Nat → ClassId} {r0 : Int64} {X0 : XM} (hL : LL L) (F : Fx p s m args meth c cL_told 5 (some .long) wsL_told yL_told.cls D ac) : ∀ (n : Nat) (x1 : Int64) (x3 : Int32) (X : XM) (H : Heap) (locs : List Loc) (ls : Array Slot), Oh D L ac X (fr L) s.heap H locs → lv_has ls 5 [(0, .ref (L 0)), (1, .long x1), (3, .int x3)] → fL_told_6 n x1 x3 X = some (r0, X0) → W p l e (headSpec wsL_told ({ frames := 6, cells := 0, slots := 0, locals := 131 })).room s m args below meth c H locs 0 0 (MQ below (va_Ql (fun (r : Int64) (Y : XM) => r = r0 ∧ Y = X0) (fun (Y : XM) t => St D L ac Y t) (fr L)) args s 0 0 (fr L)) (F0 m 6 ls []) := by
  obtain ⟨hx, hb, hr, hts, hown, hlocks, hml, hK, hN⟩ := id F
  have hA : ∀ q, fr L q → fr L q := fun q h => h
  intro n
  induction n with
  | zero => intro x1 x3 X H locs ls hO hl hf; simp [fL_told_6] at hf
  | succ n ih =>
    intro x1 x3 X H locs ls hO hl hf
    rw [fL_told_6] at hf
    refine lv_iload_n hx hb dL_told_6 rfl (lv_at hl 2 rfl) ?_
    refine lv_bipush (v := 9) hx hb dL_told_7 (by decide) ?_
    refine lv_icmp_ge (tgt := 31) hx hb dL_told_9 (by decide) (fun c_25 => ?_) (fun c_25 => ?_)
    · rw [if_pos c_25] at hf
      refine lv_iconst (v := 0) hx hb dL_told_31 (by decide) ?_
      refine lv_istore_n (lv' := [(3, .int 0), (0, .ref (L 0)), (1, .long x1)]) hx hb dL_told_32 rfl hl (by decide) rfl (fun ls_26 hl_26 => ?_)
      clear hl
      exact wL_told_33 hL F  fuel _ _ _  _ _ _ hO (lv_sub hl_26 [1, 2, 0] rfl) hf
    · rw [if_neg c_25] at hf
      refine lv_ldc2 (v := 31) hx hb hown (hts _ lk_L_told_c10) dL_told_12 ?_
      refine lv_lload_n hx hb dL_told_15 rfl (lv_at hl 1 rfl) ?_
      refine lv_lmul hx hb dL_told_16 ?_
      refine lv_aload_n hx hb dL_told_17 rfl (lv_at hl 0 rfl) ?_
      refine lv_iload_n hx hb dL_told_18 rfl (lv_at hl 2 rfl) ?_
      replace hf := zi_some hf
      obtain ⟨r_28, X_27, hc_27, hf⟩ := hf
      refine k_ai (va_runV (As := [.int x3]) (rest := [.long ((31 : Int64) * x1)]) ⟨hx, hb, hml, hown, hts⟩ (mX8_count l D L ac hL _ x3 _ _ hc_27) (cwV 1 hts gL_told_X8_count rfl rfl rfl (by decide +kernel) ⟨Nat.le_of_ble_eq_true rfl, Nat.le_of_ble_eq_true rfl⟩) (k_pv (j := 0) hK hN hO (by decide) rfl rfl _) rfl rfl hl.1 rfl (lv_room (Nat.le_of_ble_eq_true rfl)) dL_told_19 ⟨Nat.le_of_ble_eq_true rfl, Nat.le_of_ble_eq_true rfl⟩) hA hO (fun H_29 locs_29 hO_29 => ?_)
      clear hO
      refine lv_i2l hx hb dL_told_22 rfl ?_
      refine lv_ladd hx hb dL_told_23 ?_
      replace hf := zl_some hf
      obtain ⟨v_30, hv_30, hf⟩ := hf
      refine lv_topL hv_30 ?_
      refine lv_lstore_n (lv' := [(1, .long v_30), (0, .ref (L 0)), (3, .int x3)]) hx hb dL_told_24 rfl hl (by decide) rfl (fun ls_31 hl_31 => ?_)
      clear hl
      refine lv_iinc (v := x3 + 1) (lv' := [(3, .int (x3 + 1)), (1, .long v_30), (0, .ref (L 0))]) hx hb dL_told_25 hl_31 (k := 2) rfl rfl (by decide) rfl (fun ls_32 hl_32 => ?_)
      clear hl_31
      refine lv_goto (tgt := 6) hx hb dL_told_28 (by decide) ?_
      exact ih _ _ _  _ _ _ hO_29 (lv_sub hl_32 [2, 1, 0] rfl) hf
def fL_told   (X : XM) : Option (Int64 × XM) := zl ((3 : Int64)) (fun v_33 => fL_told_6 fuel v_33 0 X)
set_option maxHeartbeats 4000000 in
set_option maxRecDepth 100000 in
theorem mL_told (l : Launch) (D : va_G) (L : Nat → Nat) (ac : Nat → ClassId) (hL : LL L) (X : XM)  (r0 : Int64) (X0 : XM) (hf : fL_told  X = some (r0, X0)) : Cl l yL_told wsL_told ({ frames := 6, cells := 0, slots := 0, locals := 131 }) D L ac X [.ref (L 0)] r0 X0 := by
  refine Met.ofK (cc := cL_told) (maxL := 5) (ret := (some .long)) (lv := [(0, .ref (L 0))]) (by decide +kernel) rfl (Nat.le_of_ble_eq_true rfl) rfl ?_
  intro p e s m below meth c F hO ls hl
  obtain ⟨hx, hb, hr, hts, hown, hlocks, hml, hK, hN⟩ := id F
  have hA : ∀ q, fr L q → fr L q := fun q h => h
  unfold fL_told at hf
  refine lv_ldc2 (v := 3) hx hb hown (hts _ lk_L_told_c8) dL_told_0 ?_
  replace hf := zl_some hf
  obtain ⟨v_33, hv_33, hf⟩ := hf
  refine lv_topL hv_33 ?_
  refine lv_lstore_n (lv' := [(1, .long v_33), (0, .ref (L 0))]) hx hb dL_told_3 rfl hl (by decide) rfl (fun ls_34 hl_34 => ?_)
  clear hl
  refine lv_iconst (v := 0) hx hb dL_told_4 (by decide) ?_
  refine lv_istore_n (lv' := [(3, .int 0), (1, .long v_33), (0, .ref (L 0))]) hx hb dL_told_5 rfl hl_34 (by decide) rfl (fun ls_35 hl_35 => ?_)
  clear hl_34
  exact wL_told_6 hL F  fuel _ _ _  _ _ _ hO (lv_sub hl_35 [2, 1, 0] rfl) hf
