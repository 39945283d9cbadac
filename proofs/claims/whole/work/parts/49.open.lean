theorem inT_X0 : ∀ w ∈ u_ws RX0 TX0 10, w ∈ lw_tbl := by decide +kernel
theorem inT_X1 : ∀ w ∈ u_ws RX1 TX1 2, w ∈ lw_tbl := by decide +kernel
theorem inT_X2 : ∀ w ∈ u_ws RX2 TX2 2, w ∈ lw_tbl := by decide +kernel
theorem inT_X3 : ∀ w ∈ u_ws RX3 TX3 4, w ∈ lw_tbl := by decide +kernel
theorem inT_X4 : ∀ w ∈ u_ws RX4 TX4 2, w ∈ lw_tbl := by decide +kernel
theorem inT_X5 : ∀ w ∈ u_ws RX5 TX5 2, w ∈ lw_tbl := by decide +kernel
theorem inT_X6 : ∀ w ∈ u_ws RX6 TX6 2, w ∈ lw_tbl := by decide +kernel
theorem inT_X7 : ∀ w ∈ u_ws RX7 TX7 8, w ∈ lw_tbl := by decide +kernel
theorem inT_X8 : ∀ w ∈ u_ws RX8 TX8 8, w ∈ lw_tbl := by decide +kernel
theorem inT_X9 : ∀ w ∈ u_ws RX9 TX9 16, w ∈ lw_tbl := by decide +kernel
set_option maxRecDepth 100000 in
theorem gL_X8_init : GoodIn lw_tbl wsX8_init := goodIn_r _ [112, 113, 114, 115, 116, 117, 94, 311, 312, 313, 216, 217, 97, 314, 233, 315, 235, 236, 98, 316, 268, 269, 99, 317, 281, 282, 100, 318, 296, 101, 119, 120, 121, 171, 174, 122, 177, 124, 125, 95, 182, 184, 142, 96, 127, 128, 129, 144, 145, 146, 219, 220, 221, 222, 225, 238, 239, 240, 267, 242, 243, 244, 245, 241, 249, 271, 272, 273, 274, 284, 285, 286, 295, 287, 298, 299, 300, 301, 303, 195, 197, 199, 201, 203, 205, 207, 209, 211, 213, 319, 321, 323, 325, 327, 329, 331, 333, 228, 230, 250, 252, 254, 256, 258, 260, 262, 264, 276, 278, 290, 292, 306, 308, 137, 139, 162, 164, 166, 168] (by decide +kernel) (by decide +kernel)
set_option maxRecDepth 100000 in
theorem gL_X9_init : GoodIn lw_tbl wsX9_init := goodIn_r _ [725, 726, 114, 115, 267, 728, 729, 730, 732, 776, 733, 734, 736, 737, 738, 741, 727, 743, 745, 747, 749, 751, 753, 755, 757, 759, 761, 763, 765, 767, 769, 771, 773] (by decide +kernel) (by decide +kernel)
theorem arr_known {s : State} {ty : FieldType} {args : Array Value} (hne : ∀ C, ty ≠ .object C) (h : (Cond.arrayClass ty).before args s = true) : ∃ cA, ArrOfT s cA ty ∧ va_RA s cA ty := by
  obtain ⟨cA, kA, comp, h1, h2, h3⟩ := Cond.arrayClass_spec h
  refine ⟨cA, fun n z => ⟨fun k h => (by cases h), kA, h2, comp, h3⟩, ?_⟩
  cases ty with
  | object C => exact absurd rfl (hne C)
  | _ => exact h1
theorem arr_over {s : State} {C : String} (h : va_AO C s) : ∃ cA, ArrOfT s cA (.object C) ∧ va_RA s cA (.object C) := by
  obtain ⟨comp, c, k, h1, h2, h3, h4, h5⟩ := Cond.arrayOver_spec h
  exact ⟨c, fun n z => ⟨fun k h => (by cases h), k, h3, comp, h4⟩, k, comp, h3, h4, h1, h5⟩
set_option maxHeartbeats 4000000 in
set_option maxRecDepth 100000 in
theorem start_open {p : Program} {e : Env} {s : State} {m : MethodId} {below : List Frame} {meth : Method} {c : Code} (l : Launch) {b N : Nat} {xs : Nat → Int32} (hN2 : N ≤ 2048) (C0 : lw_At p s m meth c b N xs) (Inv : XM → Prop)
  (ops_set : ∀ (a1 : Int32) (a2 : Int32) (X : XM), Inv X → ∃ (r : Int32) (X1 X2 : XM), fX8_set a1 a2 X = some (r, X1) ∧ fX9_set a1 a2 X1 = some (r, X2) ∧ Inv X2)
  (ops_pile : ∀ (a1 : Int32) (a2 : Int32) (a3 : Int32) (X : XM), Inv X → ∃ (r : Int32) (X1 X2 : XM), fX8_pile a1 a2 a3 X = some (r, X1) ∧ fX9_pile a1 a2 a3 X1 = some (r, X2) ∧ Inv X2)
  (ops_passes : ∀ (a1 : Int32) (a2 : Int32) (X : XM), Inv X → ∃ (r : Int32) (X1 X2 : XM), fX8_passes a1 a2 X = some (r, X1) ∧ fX9_passes a1 a2 X1 = some (r, X2) ∧ Inv X2)
  (ops_begin : ∀ (X : XM), Inv X → ∃ (r : Int32) (X1 X2 : XM), fX8_begin X = some (r, X1) ∧ fX9_begin X1 = some (r, X2) ∧ Inv X2)
  (ops_take : ∀ (a1 : Int32) (a2 : Int32) (X : XM), Inv X → ∃ (r : Int32) (X1 X2 : XM), fX8_take a1 a2 X = some (r, X1) ∧ fX9_take a1 a2 X1 = some (r, X2) ∧ Inv X2)
  (ops_pass : ∀ (X : XM), Inv X → ∃ (r : Int32) (X1 X2 : XM), fX8_pass X = some (r, X1) ∧ fX9_pass X1 = some (r, X2) ∧ Inv X2)
  (ops_play : ∀ (a1 : Int32) (X : XM), Inv X → ∃ (r : Int32) (X1 X2 : XM), fX8_play a1 X = some (r, X1) ∧ fX9_play a1 X1 = some (r, X2) ∧ Inv X2)
  (ops_ofPile : ∀ (a1 : Int32) (a2 : Int32) (X : XM), Inv X → ∃ (r : Int32) (X1 X2 : XM), fX8_ofPile a1 a2 X = some (r, X1) ∧ fX9_ofPile a1 a2 X1 = some (r, X2) ∧ Inv X2)
  (ops_ofPlayer : ∀ (a1 : Int32) (a2 : Int32) (X : XM), Inv X → ∃ (r : Int32) (X1 X2 : XM), fX8_ofPlayer a1 a2 X = some (r, X1) ∧ fX9_ofPlayer a1 a2 X1 = some (r, X2) ∧ Inv X2)
  (ops_count : ∀ (a1 : Int32) (X : XM), Inv X → ∃ (r : Int32) (X1 X2 : XM), fX8_count a1 X = some (r, X1) ∧ fX9_count a1 X1 = some (r, X2) ∧ Inv X2)
  (ops_moves : ∀ (X : XM), Inv X → ∃ (r : Int32) (X1 X2 : XM), fX8_moves X = some (r, X1) ∧ fX9_moves X1 = some (r, X2) ∧ Inv X2)
  (ops_won : ∀ (X : XM), Inv X → ∃ (r : Int32) (X1 X2 : XM), fX8_won X = some (r, X1) ∧ fX9_won X1 = some (r, X2) ∧ Inv X2)
  (ops_winning : ∀ (X : XM), Inv X → ∃ (r : Int32) (X1 X2 : XM), fX8_winning X = some (r, X1) ∧ fX9_winning X1 = some (r, X2) ∧ Inv X2)
  (ops_value : ∀ (X : XM), Inv X → ∃ (r : Int32) (X1 X2 : XM), fX8_value X = some (r, X1) ∧ fX9_value X1 = some (r, X2) ∧ Inv X2)
  (ops_best : ∀ (X : XM), Inv X → ∃ (r : Int32) (X1 X2 : XM), fX8_best X = some (r, X1) ∧ fX9_best X1 = some (r, X2) ∧ Inv X2)
  (ops_grundy : ∀ (a1 : Int32) (X : XM), Inv X → ∃ (r : Int32) (X1 X2 : XM), fX8_grundy a1 X = some (r, X1) ∧ fX9_grundy a1 X1 = some (r, X2) ∧ Inv X2)
  (ops_period : ∀ (a1 : Int32) (X : XM), Inv X → ∃ (r : Int32) (X1 X2 : XM), fX8_period a1 X = some (r, X1) ∧ fX9_period a1 X1 = some (r, X2) ∧ Inv X2)
  (ops_drawn : ∀ (a1 : Int32) (a2 : Int32) (X : XM), Inv X → ∃ (r : Int32) (X1 X2 : XM), fX8_drawn a1 a2 X = some (r, X1) ∧ fX9_drawn a1 a2 X1 = some (r, X2) ∧ Inv X2)
  (ops_put : ∀ (a1 : Int64) (X : XM), Inv X → ∃ (r : Int32) (X1 X2 : XM), fX8_put a1 X = some (r, X1) ∧ fX9_put a1 X1 = some (r, X2) ∧ Inv X2)
  (ops_wipe : ∀ (X : XM), Inv X → ∃ (r : Int32) (X1 X2 : XM), fX8_wipe X = some (r, X1) ∧ fX9_wipe X1 = some (r, X2) ∧ Inv X2)
  (ops_fault : ∀ (X : XM), Inv X → ∃ (r : Int32) (X1 X2 : XM), fX8_fault X = some (r, X1) ∧ fX9_fault X1 = some (r, X2) ∧ Inv X2)
  (ops_carryOut : ∀ (X : XM), Inv X → ∃ (r : Int32) (X1 X2 : XM), fX8_carryOut X = some (r, X1) ∧ fX9_carryOut X1 = some (r, X2) ∧ Inv X2)
  (ops_undo : ∀ (X : XM), Inv X → ∃ (r : Int32) (X1 X2 : XM), fX8_undo X = some (r, X1) ∧ fX9_undo X1 = some (r, X2) ∧ Inv X2)
  (ops_save : ∀ (a1 : Int32) (X : XM), Inv X → ∃ (r : Int32) (X1 X2 : XM), fX8_save a1 X = some (r, X1) ∧ fX9_save a1 X1 = some (r, X2) ∧ Inv X2)
  (ops_restore : ∀ (a1 : Int32) (X : XM), Inv X → ∃ (r : Int32) (X1 X2 : XM), fX8_restore a1 X = some (r, X1) ∧ fX9_restore a1 X1 = some (r, X2) ∧ Inv X2) (hI0 : Inv XI) : W p l e room_1 s m #[Value.ref b] below meth c s.heap [] 0 0 (lw_Z below #[Value.ref b] s) (entryFrame m ([Value.ref b] : List Value).toArray 4) := by
  obtain ⟨hx, hb, hr, hml, hown, hts, hX, hbl, hlocks, hgv⟩ := id C0
  have hA : ∀ q : Nat, s.heap.size ≤ q → (fun q : Nat => s.heap.size ≤ q) q := fun _ h => h
  obtain ⟨c0, iS0, hKn0⟩ := u_known (C := RX0) (T := TX0) (N := 10) (n := 10) hts inT_X0 (hts _ (by decide +kernel : Cond.instantiable RX0 10 ∈ lw_tbl))
  obtain ⟨c1, iS1, hKn1⟩ := u_known (C := RX1) (T := TX1) (N := 2) (n := 2) hts inT_X1 (hts _ (by decide +kernel : Cond.instantiable RX1 2 ∈ lw_tbl))
  obtain ⟨c2, iS2, hKn2⟩ := u_known (C := RX2) (T := TX2) (N := 2) (n := 2) hts inT_X2 (hts _ (by decide +kernel : Cond.instantiable RX2 2 ∈ lw_tbl))
  obtain ⟨c3, iS3, hKn3⟩ := u_known (C := RX3) (T := TX3) (N := 4) (n := 4) hts inT_X3 (hts _ (by decide +kernel : Cond.instantiable RX3 4 ∈ lw_tbl))
  obtain ⟨c4, iS4, hKn4⟩ := u_known (C := RX4) (T := TX4) (N := 2) (n := 2) hts inT_X4 (hts _ (by decide +kernel : Cond.instantiable RX4 2 ∈ lw_tbl))
  obtain ⟨c5, iS5, hKn5⟩ := u_known (C := RX5) (T := TX5) (N := 2) (n := 2) hts inT_X5 (hts _ (by decide +kernel : Cond.instantiable RX5 2 ∈ lw_tbl))
  obtain ⟨c6, iS6, hKn6⟩ := u_known (C := RX6) (T := TX6) (N := 2) (n := 2) hts inT_X6 (hts _ (by decide +kernel : Cond.instantiable RX6 2 ∈ lw_tbl))
  obtain ⟨c7, iS7, hKn7⟩ := u_known (C := RX7) (T := TX7) (N := 8) (n := 8) hts inT_X7 (hts _ (by decide +kernel : Cond.instantiable RX7 8 ∈ lw_tbl))
  obtain ⟨c8, iS8, hKn8⟩ := u_known (C := RX8) (T := TX8) (N := 8) (n := 8) hts inT_X8 (hts _ (by decide +kernel : Cond.instantiable RX8 8 ∈ lw_tbl))
  obtain ⟨c9, iS9, hKn9⟩ := u_known (C := RX9) (T := TX9) (N := 16) (n := 16) hts inT_X9 (hts _ (by decide +kernel : Cond.instantiable RX9 16 ∈ lw_tbl))
  obtain ⟨D, hKc⟩ : ∃ (D : va_G), ∀ (k : Nat) (q : vw_C), vwCl[k]? = some q → u_Kn s q.1 q.2.1 q.2.2 (D.1 k) (D.2 k) := by
    refine ⟨(fun k => [c0, c1, c2, c3, c4, c5, c6, c7, c8, c9].getD k c0, fun k => [iS0, iS1, iS2, iS3, iS4, iS5, iS6, iS7, iS8, iS9].getD k iS0), ?_⟩
    intro k q hq
    match k, hq with
    | 0, hq => cases hq; exact hKn0
    | 1, hq => cases hq; exact hKn1
    | 2, hq => cases hq; exact hKn2
    | 3, hq => cases hq; exact hKn3
    | 4, hq => cases hq; exact hKn4
    | 5, hq => cases hq; exact hKn5
    | 6, hq => cases hq; exact hKn6
    | 7, hq => cases hq; exact hKn7
    | 8, hq => cases hq; exact hKn8
    | 9, hq => cases hq; exact hKn9
    | k + 10, hq => simp [vwCl] at hq
  obtain ⟨ca0, hca0⟩ := arr_known (ty := .int) (by intro C h; cases h) (hts _ (by decide +kernel : Cond.arrayClass .int ∈ lw_tbl))
  obtain ⟨ca1, hca1⟩ := arr_known (ty := .char) (by intro C h; cases h) (hts _ (by decide +kernel : Cond.arrayClass .char ∈ lw_tbl))
  obtain ⟨ca2, hca2⟩ := arr_known (ty := .boolean) (by intro C h; cases h) (hts _ (by decide +kernel : Cond.arrayClass .boolean ∈ lw_tbl))
  have hAO : AOw s := ⟨va_AO.of (hts _ (by decide +kernel : Cond.arrayOver (.object RX3) ∈ lw_tbl)), va_AO.of (hts _ (by decide +kernel : Cond.arrayOver (.object RX0) ∈ lw_tbl)), va_AO.of (hts _ (by decide +kernel : Cond.arrayOver (.object RX6) ∈ lw_tbl))⟩
  obtain ⟨ca3, hca3⟩ := arr_over hAO.1
  obtain ⟨ca4, hca4⟩ := arr_over hAO.2.1
  obtain ⟨ca5, hca5⟩ := arr_over hAO.2.2
  have hK : va_K D vwCl (tys (fun k => [ca0, ca1, ca2, ca3, ca4, ca5].getD k ca0)) s := by
    refine ⟨hKc, fun k q h => ?_⟩
    match k, h with
    | 0, h => cases h; exact hca0
    | 1, h => cases h; exact hca1
    | 2, h => cases h; exact hca2
    | 3, h => cases h; exact hca3
    | 4, h => cases h; exact hca4
    | 5, h => cases h; exact hca5
    | k + 6, h => simp [tys] at h
  generalize (fun k => [ca0, ca1, ca2, ca3, ca4, ca5].getD k ca0) = ac at hK
  have hN : NX s := fun w hw => va_Nw.of (nxW_on w hw) (hts w (nxW_in w hw))
  have hKA : KA D ac s := ⟨hK, hN, hAO⟩
  have hS : va_S (fun q : Nat => s.heap.size ≤ q) s.heap s.heap [] := va_S.rf
  have hP : va_P D vwCl [] s.heap := fun k q h => by simp at h
  have hD : va_D (fun q : Nat => s.heap.size ≤ q) [] := ⟨fun i j p q h => by simp at h, fun k q h => by simp at h⟩
  have hl := lv_entry ([.ref b]) (n := 4) (Nat.le_of_ble_eq_true rfl)
  rw [lg_entry_eq]
  generalize (lg_sl ([.ref b]) ++ List.replicate (4 - (lg_sl ([.ref b])).length) Slot.unset).toArray = ls at hl ⊢
  have hl : lv_has ls 4 [(0, .ref b)] := hl
  refine va_new (ci := 8) (fs := [.null, .null, .null, .null, .null, .null, .null, .null]) (C := RX8) (T := TX8) (N := 8) hx hb hts inT_X8 tyX8 tyX8_ok hown (hts _ (by decide +kernel : Cond.classLink RL 7 RX8 ∈ lw_tbl)) (hts _ (by decide +kernel : Cond.instantiable RX8 8 ∈ lw_tbl)) (hts _ (by decide +kernel : Cond.initialized RX8 ∈ lw_tbl)) hK hP hD hS hA rfl (fun j hj => by match j, hj with | 0, _ => exact rfl | 1, _ => exact rfl | 2, _ => exact rfl | 3, _ => exact rfl | 4, _ => exact rfl | 5, _ => exact rfl | 6, _ => exact rfl | 7, _ => exact rfl | n + 8, h => exact absurd h (by omega)) (Nat.le_of_ble_eq_true rfl) (Nat.le_of_ble_eq_true rfl) dL_law_0 (fun q H hP hD hS => ?_)
  refine lv_dup hx hb dL_law_3 rfl ?_
  refine k_made (ws0 := []) (va_runI (As := []) (rest := [.ref q]) ⟨hx, hb, hml, hown, hts⟩ (mX8_init l D ac q H.size) (cwI 0 hts gL_X8_init rfl rfl rfl (hts _ (by decide +kernel : Cond.initialized RX8 ∈ lw_tbl)) (hts _ (by decide +kernel : Cond.methodLink RL 9 yX8_init ∈ lw_tbl)) (hts _ (by decide +kernel : Cond.instanceMethod yX8_init ∈ lw_tbl)) rfl (by decide +kernel) ⟨Nat.le_of_ble_eq_true rfl, Nat.le_of_ble_eq_true rfl⟩) (k_pre hKA hP) rfl rfl hl.1 rfl (lv_room (Nat.le_of_ble_eq_true rfl)) dL_law_4 ⟨Nat.le_of_ble_eq_true rfl, Nat.le_of_ble_eq_true rfl⟩) hP hD hS hA (fun u H locs hP hD hS => ?_)
  refine lv_astore_n (lv' := [(1, .ref q), (0, .ref b)]) hx hb dL_law_7 rfl hl (by decide) rfl (fun ls hl => ?_)
  refine va_new (ci := 9) (fs := [.int 0, .null, .null, .null, .int 0, .null, .null, .null, .int 0, .null, .null, .null, .int 0, .int 0, .null, .int 0]) (C := RX9) (T := TX9) (N := 16) hx hb hts inT_X9 tyX9 tyX9_ok hown (hts _ (by decide +kernel : Cond.classLink RL 10 RX9 ∈ lw_tbl)) (hts _ (by decide +kernel : Cond.instantiable RX9 16 ∈ lw_tbl)) (hts _ (by decide +kernel : Cond.initialized RX9 ∈ lw_tbl)) hK hP hD hS hA rfl (fun j hj => by match j, hj with | 0, _ => exact rfl | 1, _ => exact rfl | 2, _ => exact rfl | 3, _ => exact rfl | 4, _ => exact rfl | 5, _ => exact rfl | 6, _ => exact rfl | 7, _ => exact rfl | 8, _ => exact rfl | 9, _ => exact rfl | 10, _ => exact rfl | 11, _ => exact rfl | 12, _ => exact rfl | 13, _ => exact rfl | 14, _ => exact rfl | 15, _ => exact rfl | n + 16, h => exact absurd h (by omega)) (Nat.le_of_ble_eq_true rfl) (Nat.le_of_ble_eq_true rfl) dL_law_8 (fun mq H hP hD hS => ?_)
  refine lv_dup hx hb dL_law_11 rfl ?_
  refine k_made (ws0 := (wAll ac q u)) (va_runI (As := []) (rest := [.ref mq]) ⟨hx, hb, hml, hown, hts⟩ (mX9_init l D ac mq H.size) (cwI 0 hts gL_X9_init rfl rfl rfl (hts _ (by decide +kernel : Cond.initialized RX9 ∈ lw_tbl)) (hts _ (by decide +kernel : Cond.methodLink RL 12 yX9_init ∈ lw_tbl)) (hts _ (by decide +kernel : Cond.instanceMethod yX9_init ∈ lw_tbl)) rfl (by decide +kernel) ⟨Nat.le_of_ble_eq_true rfl, Nat.le_of_ble_eq_true rfl⟩) (k_pre hKA hP) rfl rfl hl.1 rfl (lv_room (Nat.le_of_ble_eq_true rfl)) dL_law_12 ⟨Nat.le_of_ble_eq_true rfl, Nat.le_of_ble_eq_true rfl⟩) hP hD hS hA (fun um H locs hP hD hS => ?_)
  refine lv_astore_n (lv' := [(2, .ref mq), (1, .ref q), (0, .ref b)]) hx hb dL_law_15 rfl hl (by decide) rfl (fun ls hl => ?_)
  refine lv_iconst (v := 0) hx hb dL_law_16 (by decide) ?_
  refine lv_istore_n (lv' := [(3, .int 0), (2, .ref mq), (1, .ref q), (0, .ref b)]) hx hb dL_law_17 rfl hl (by decide) rfl (fun ls hl => ?_)
  have hP : va_P D vwCl (wFlat ac q mq u um) H := wFlat_eq ▸ (hP : va_P D vwCl (wAll ac q u ++ wModel ac mq (um 0)) H)
  have hD : va_D (fun q : Nat => s.heap.size ≤ q) (wFlat ac q mq u um) := wFlat_eq ▸ (hD : va_D (fun q : Nat => s.heap.size ≤ q) (wAll ac q u ++ wModel ac mq (um 0)))
  obtain ⟨hLL, hfr⟩ := start_LL hD
  refine W.widen (k := 114) (n := 94780) (Nat.le_of_ble_eq_true rfl) (Nat.le_of_ble_eq_true rfl) ?_
  exact law_loop hN2 C0 hLL hfr hK hN Inv ops_set ops_pile ops_passes ops_begin ops_take ops_pass ops_play ops_ofPile ops_ofPlayer ops_count ops_moves ops_won ops_winning ops_value ops_best ops_grundy ops_period ops_drawn ops_put ops_wipe ops_fault ops_carryOut ops_undo ops_save ops_restore (N + 1) 0 (by omega) (by omega) XI hI0 H _ (start_Oh hP hS) ls (lv_sub hl [3, 2, 1, 0] rfl)
