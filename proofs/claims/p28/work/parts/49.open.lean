theorem inT_X0 : ∀ w ∈ u_ws RX0 TX0 10, w ∈ wsL_law := by decide +kernel
theorem inT_X1 : ∀ w ∈ u_ws RX1 TX1 2, w ∈ wsL_law := by decide +kernel
theorem inT_X2 : ∀ w ∈ u_ws RX2 TX2 2, w ∈ wsL_law := by decide +kernel
theorem inT_X3 : ∀ w ∈ u_ws RX3 TX3 4, w ∈ wsL_law := by decide +kernel
theorem inT_X4 : ∀ w ∈ u_ws RX4 TX4 2, w ∈ wsL_law := by decide +kernel
theorem inT_X5 : ∀ w ∈ u_ws RX5 TX5 2, w ∈ wsL_law := by decide +kernel
theorem inT_X6 : ∀ w ∈ u_ws RX6 TX6 2, w ∈ wsL_law := by decide +kernel
theorem inT_X7 : ∀ w ∈ u_ws RX7 TX7 8, w ∈ wsL_law := by decide +kernel
theorem inT_X8 : ∀ w ∈ u_ws RX8 TX8 8, w ∈ wsL_law := by decide +kernel
theorem arr_known {s : State} {ty : FieldType} {args : Array Value} (hne : ∀ C, ty ≠ .object C) (h : (Cond.arrayClass ty).before args s = true) : ∃ cA, ArrOfT s cA ty ∧ va_RA s cA ty := by
  obtain ⟨cA, kA, comp, h1, h2, h3⟩ := Cond.arrayClass_spec h
  refine ⟨cA, fun n z => ⟨fun k h => (by cases h), kA, h2, comp, h3⟩, ?_⟩
  cases ty with
  | object C => exact absurd rfl (hne C)
  | _ => exact h1
theorem arr_over {s : State} {C : String} (h : va_AO C s) : ∃ cA, ArrOfT s cA (.object C) ∧ va_RA s cA (.object C) := by
  obtain ⟨comp, c, k, h1, h2, h3, h4, h5⟩ := Cond.arrayOver_spec h
  exact ⟨c, fun n z => ⟨fun k h => (by cases h), k, h3, comp, h4⟩, k, comp, h3, h4, h1, h5⟩
set_option maxHeartbeats 4000000 in
set_option maxRecDepth 100000 in
theorem start_open {p : Program} {e : Env} {s : State} {m : MethodId} {below : List Frame} {meth : Method} {c : Code} (l : Launch) {b N : Nat} {xs : Nat → Int32} (hN2 : N ≤ 260) (C0 : lw_At p s m meth c b N xs) (hf : fL_law xs N XI = some ()) : W p l e room_1 s m #[Value.ref b] below meth c s.heap [] 0 0 (lw_Z below #[Value.ref b] s) (entryFrame m ([Value.ref b] : List Value).toArray 14) := by
  obtain ⟨hx, hb, hr, hml, hown, hts0, hX, hbl, hlocks, hgv⟩ := id C0
  have hts : ∀ w ∈ wsL_law, w.before #[Value.ref b] s = true := fun w h => hts0 w (wsL_law_in w h)
  have hA : ∀ q : Nat, s.heap.size ≤ q → (fun q : Nat => s.heap.size ≤ q) q := fun _ h => h
  obtain ⟨c0, iS0, hKn0⟩ := u_known (C := RX0) (T := TX0) (N := 10) (n := 10) hts inT_X0 (hts _ (by decide +kernel : Cond.instantiable RX0 10 ∈ wsL_law))
  obtain ⟨c1, iS1, hKn1⟩ := u_known (C := RX1) (T := TX1) (N := 2) (n := 2) hts inT_X1 (hts _ (by decide +kernel : Cond.instantiable RX1 2 ∈ wsL_law))
  obtain ⟨c2, iS2, hKn2⟩ := u_known (C := RX2) (T := TX2) (N := 2) (n := 2) hts inT_X2 (hts _ (by decide +kernel : Cond.instantiable RX2 2 ∈ wsL_law))
  obtain ⟨c3, iS3, hKn3⟩ := u_known (C := RX3) (T := TX3) (N := 4) (n := 4) hts inT_X3 (hts _ (by decide +kernel : Cond.instantiable RX3 4 ∈ wsL_law))
  obtain ⟨c4, iS4, hKn4⟩ := u_known (C := RX4) (T := TX4) (N := 2) (n := 2) hts inT_X4 (hts _ (by decide +kernel : Cond.instantiable RX4 2 ∈ wsL_law))
  obtain ⟨c5, iS5, hKn5⟩ := u_known (C := RX5) (T := TX5) (N := 2) (n := 2) hts inT_X5 (hts _ (by decide +kernel : Cond.instantiable RX5 2 ∈ wsL_law))
  obtain ⟨c6, iS6, hKn6⟩ := u_known (C := RX6) (T := TX6) (N := 2) (n := 2) hts inT_X6 (hts _ (by decide +kernel : Cond.instantiable RX6 2 ∈ wsL_law))
  obtain ⟨c7, iS7, hKn7⟩ := u_known (C := RX7) (T := TX7) (N := 8) (n := 8) hts inT_X7 (hts _ (by decide +kernel : Cond.instantiable RX7 8 ∈ wsL_law))
  obtain ⟨c8, iS8, hKn8⟩ := u_known (C := RX8) (T := TX8) (N := 8) (n := 8) hts inT_X8 (hts _ (by decide +kernel : Cond.instantiable RX8 8 ∈ wsL_law))
  obtain ⟨D, hKc⟩ : ∃ (D : va_G), ∀ (k : Nat) (q : vw_C), vwCl[k]? = some q → u_Kn s q.1 q.2.1 q.2.2 (D.1 k) (D.2 k) := by
    refine ⟨(fun k => [c0, c1, c2, c3, c4, c5, c6, c7, c8].getD k c0, fun k => [iS0, iS1, iS2, iS3, iS4, iS5, iS6, iS7, iS8].getD k iS0), ?_⟩
    intro k q hq
    match k, hq with
    | 0, hq => cases hq; exact hKn0
    | 1, hq => cases hq; exact hKn1
    | 2, hq => cases hq; exact hKn2
    | 3, hq => cases hq; exact hKn3
    | 4, hq => cases hq; exact hKn4
    | 5, hq => cases hq; exact hKn5
    | 6, hq => cases hq; exact hKn6
    | 7, hq => cases hq; exact hKn7
    | 8, hq => cases hq; exact hKn8
    | k + 9, hq => simp [vwCl] at hq
  obtain ⟨ca0, hca0⟩ := arr_known (ty := .int) (by intro C h; cases h) (hts _ (by decide +kernel : Cond.arrayClass .int ∈ wsL_law))
  obtain ⟨ca1, hca1⟩ := arr_known (ty := .char) (by intro C h; cases h) (hts _ (by decide +kernel : Cond.arrayClass .char ∈ wsL_law))
  have hAO : AOw s := ⟨va_AO.of (hts0 _ (by decide +kernel : Cond.arrayOver (.object RX3) ∈ lw_tbl)), va_AO.of (hts0 _ (by decide +kernel : Cond.arrayOver (.object RX0) ∈ lw_tbl)), va_AO.of (hts0 _ (by decide +kernel : Cond.arrayOver (.object RX6) ∈ lw_tbl))⟩
  obtain ⟨ca3, hca3⟩ := arr_over hAO.1
  obtain ⟨ca4, hca4⟩ := arr_over hAO.2.1
  obtain ⟨ca5, hca5⟩ := arr_over hAO.2.2
  have hK : va_K D vwCl (tys (fun k => [ca0, ca1, ca0, ca3, ca4, ca5].getD k ca0)) s := by
    refine ⟨hKc, fun k q h => ?_⟩
    match k, h with
    | 0, h => cases h; exact hca0
    | 1, h => cases h; exact hca1
    | 2, h => cases h; exact hca0
    | 3, h => cases h; exact hca3
    | 4, h => cases h; exact hca4
    | 5, h => cases h; exact hca5
    | k + 6, h => simp [tys] at h
  generalize (fun k => [ca0, ca1, ca0, ca3, ca4, ca5].getD k ca0) = ac at hK
  have hN : NX s := fun w hw => va_Nw.of (nxW_on w hw) (hts0 w (nxW_in w hw))
  have hKA : KA D ac s := ⟨hK, hN, hAO⟩
  have hS : va_S (fun q : Nat => s.heap.size ≤ q) s.heap s.heap [] := va_S.rf
  have hP : va_P D vwCl [] s.heap := fun k q h => by simp at h
  have hD : va_D (fun q : Nat => s.heap.size ≤ q) [] := ⟨fun i j p q h => by simp at h, fun k q h => by simp at h⟩
  have hl := lv_entry ([.ref b]) (n := 14) (Nat.le_of_ble_eq_true rfl)
  rw [lg_entry_eq]
  generalize (lg_sl ([.ref b]) ++ List.replicate (14 - (lg_sl ([.ref b])).length) Slot.unset).toArray = ls at hl ⊢
  have hl : lv_has ls 14 [(0, .ref b)] := hl
  refine va_new (ci := 8) (fs := [.null, .null, .null, .null, .null, .null, .null, .null]) (C := RX8) (T := TX8) (N := 8) hx hb hts inT_X8 tyX8 tyX8_ok hown (hts _ (by decide +kernel : Cond.classLink RL 13 RX8 ∈ wsL_law)) (hts _ (by decide +kernel : Cond.instantiable RX8 8 ∈ wsL_law)) (hts _ (by decide +kernel : Cond.initialized RX8 ∈ wsL_law)) hK hP hD hS hA rfl (fun j hj => by match j, hj with | 0, _ => exact rfl | 1, _ => exact rfl | 2, _ => exact rfl | 3, _ => exact rfl | 4, _ => exact rfl | 5, _ => exact rfl | 6, _ => exact rfl | 7, _ => exact rfl | n + 8, h => exact absurd h (by omega)) (Nat.le_of_ble_eq_true rfl) (Nat.le_of_ble_eq_true rfl) dL_law_0 (fun q H hP hD hS => ?_)
  refine lv_dup hx hb dL_law_3 rfl ?_
  refine k_made (ws0 := []) (va_runI (As := []) (rest := [.ref q]) ⟨hx, hb, hml, hown, hts⟩ (mX8_init l D ac q H.size) (cwI 0 hts gL_law_X8_init rfl rfl rfl (hts _ (by decide +kernel : Cond.initialized RX8 ∈ wsL_law)) (hts _ (by decide +kernel : Cond.methodLink RL 77 yX8_init ∈ wsL_law)) (hts _ (by decide +kernel : Cond.instanceMethod yX8_init ∈ wsL_law)) rfl (by decide +kernel) ⟨Nat.le_of_ble_eq_true rfl, Nat.le_of_ble_eq_true rfl⟩) (k_pre hKA hP) rfl rfl hl.1 rfl (lv_room (Nat.le_of_ble_eq_true rfl)) dL_law_4 ⟨Nat.le_of_ble_eq_true rfl, Nat.le_of_ble_eq_true rfl⟩) hP hD hS hA (fun u H locs hP hD hS => ?_)
  refine lv_astore_n (lv' := [(1, .ref q), (0, .ref b)]) hx hb dL_law_7 rfl hl (by decide) rfl (fun ls hl => ?_)
  have hP : va_P D vwCl (wFlat ac q u) H := wFlat_eq ▸ (hP : va_P D vwCl (wAll ac q u) H)
  have hD : va_D (fun q : Nat => s.heap.size ≤ q) (wFlat ac q u) := wFlat_eq ▸ (hD : va_D (fun q : Nat => s.heap.size ≤ q) (wAll ac q u))
  obtain ⟨hLL, hfr⟩ := start_LL hD
  refine W.widen (k := 103) (n := 47387) (Nat.le_of_ble_eq_true rfl) (Nat.le_of_ble_eq_true rfl) ?_
  exact wL_law hLL ⟨C0, hN2, hfr, hK, hN⟩ XI H _ ls (start_Oh hP hS) hl hf
