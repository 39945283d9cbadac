theorem in_X1_init_X0 : ∀ w ∈ u_ws RX0 TX0 10, w ∈ wsX1_init := by decide +kernel
theorem in_X1_init_X1 : ∀ w ∈ u_ws RX1 TX1 2, w ∈ wsX1_init := by decide +kernel
theorem lk_X1_init_f11 : Cond.fieldLink RX1 11 "PoisonPiles$History" "states" "[LPoisonPiles$Game;" ∈ wsX1_init := by decide +kernel
theorem lk_X1_init_iX0 : Cond.initialized RX0 ∈ wsX1_init := by decide +kernel
theorem lk_X1_init_mX0 : Cond.instanceMethod yX0_init ∈ wsX1_init := by decide +kernel
theorem lk_X1_init_n9 : Cond.classLink RX1 9 RX0 ∈ wsX1_init := by decide +kernel
theorem lk_X1_init_o1 : Cond.methodLink RX1 3 objectInit ∈ wsX1_init := by decide +kernel
theorem lk_X1_init_o2 : Cond.instanceMethod objectInit ∈ wsX1_init := by decide +kernel
theorem lk_X1_init_o3 : Cond.code objectInit ⟨#[0xb1]⟩ 1 none ∈ wsX1_init := by decide +kernel
theorem lk_X1_init_tX0 : Cond.instantiable RX0 10 ∈ wsX1_init := by decide +kernel
set_option maxHeartbeats 4000000 in
set_option maxRecDepth 100000 in
theorem mX1_init (l : Launch) (D : va_G) (ac : Nat → ClassId) (h0 sz : Nat) : Cn l yX1_init wsX1_init ({ frames := 3, cells := 49, slots := 210, locals := 53 }) D ac h0 1 [.null, .int 0] (fun u => wHist ac h0 u) 49 210 sz := by
  refine Met.ofW (cc := cX1_init) (maxL := 2) (ret := none) (by decide +kernel) rfl ?_
  intro p e s m args below meth c s₁ B hml hv
  obtain ⟨rfl, hsz, hP, hKA⟩ := hv
  have hK := hKA.1
  have hN := hKA.2.1
  have hAO := hKA.2.2
  have hx := B.exec
  have hb := B.bytes
  have hr := B.returns
  have hts := atoms_spec (ws := wsX1_init) B.pre
  have hown : s.vm.findClass RX1 = some m.cls := findClass_of_methodNamed B.named
  have hlocks := B.notSynchronized
  have hin : meth.name = "<init>" := (name_of_methodNamed B.named B.method).1
  subst hsz
  have hD0 : va_D (fun _ => True) [(h0, .inr (1, [.null, .int 0]))] := ⟨fun i j p q hi hj _ => by have h1 := (List.getElem?_eq_some_iff.mp hi).1; have h2 := (List.getElem?_eq_some_iff.mp hj).1; simp only [List.length_cons, List.length_nil] at h1 h2; omega, fun _ _ _ => trivial⟩
  have hD := hD0.self (sz := s.heap.size)
  generalize hAe : va_A [(h0, .inr (1, [.null, .int 0]))] s.heap.size = A at hD ⊢
  have hA : ∀ q : Nat, s.heap.size ≤ q → A q := fun q h => by rw [← hAe]; exact Or.inr h
  have hS : va_S A s.heap s.heap [] := va_S.rf
  have hP : va_P D vwCl [(h0, .inr (1, [.null, .int 0]))] s.heap := hP
  have hl := lv_entry ([.ref h0]) (n := 2) (Nat.le_of_ble_eq_true rfl)
  rw [lg_entry_eq]
  generalize (lg_sl ([.ref h0]) ++ List.replicate (2 - (lg_sl ([.ref h0])).length) Slot.unset).toArray = ls at hl ⊢
  have hl : lv_has ls 2 [(0, .ref h0)] := hl
  refine lv_aload_n hx hb dX1_init_0 rfl (lv_at hl 0 rfl) ?_
  refine W.objInit hx hb hown (hts _ lk_X1_init_o1) (hts _ lk_X1_init_o2) (hts _ lk_X1_init_o3) rfl (by rw [hml]; exact hl.1) rfl dX1_init_1 (Nat.le_of_ble_eq_true rfl) (Nat.le_of_ble_eq_true rfl) ?_
  refine W.eq (g2 := F0 m 4 ls []) rfl ?_
  refine lv_aload_n hx hb dX1_init_4 rfl (lv_at hl 0 rfl) ?_
  refine lv_bipush (v := 6) hx hb dX1_init_5 (by decide) ?_
  refine k_newq (C := RX0) (t := 4) hx hb hown (hts _ lk_X1_init_n9) hAO.2.1 hK rfl hP hD hS hA (N' := 6) (by decide) (by decide) (by decide) (Nat.le_of_ble_eq_true rfl) (Nat.le_of_ble_eq_true rfl) dX1_init_7 (fun q_1 H hP hD hS => ?_)
  have hP : va_P D vwCl ([(h0, .inr (1, [.null, .int 0]))] ++ [(q_1, .inl (ac 4, 6, .inr (.inr (.inr (.inr (fun _ => none))))))]) H := hP
  have hD : va_D A ([(h0, .inr (1, [.null, .int 0]))] ++ [(q_1, .inl (ac 4, 6, .inr (.inr (.inr (.inr (fun _ => none))))))]) := hD
  refine va_putF (D := D) (ci := 1) (v := .ref q_1) (ty := .array (.object "PoisonPiles$Game")) (C := RX1) (T := TX1) (N := 2) hx hb hts in_X1_init_X1 tyX1 tyX1_ok nmX1 hown hK hP hD hS 0 rfl rfl 0 (by decide) (hts _ lk_X1_init_f11) (fun _ h9 => h9) rfl hin rfl (by decide +kernel) rfl rfl (Nat.le_of_ble_eq_true rfl) dX1_init_10 (fun H locs hP hD hS => ?_)
  have hP : va_P D vwCl ([(h0, .inr (1, [.ref q_1, .int 0]))] ++ [(q_1, .inl (ac 4, 6, .inr (.inr (.inr (.inr (fun _ => none))))))]) H := hP
  have hD : va_D A ([(h0, .inr (1, [.ref q_1, .int 0]))] ++ [(q_1, .inl (ac 4, 6, .inr (.inr (.inr (.inr (fun _ => none))))))]) := hD
  refine lv_iconst (v := 0) hx hb dX1_init_13 (by decide) ?_
  refine lv_istore_n (lv' := [(1, .int 0), (0, .ref h0)]) hx hb dX1_init_14 rfl hl (by decide) rfl (fun ls hl => ?_)
  refine lv_iload_n hx hb dX1_init_15 rfl (lv_at hl 0 rfl) ?_
  refine lv_aload_n hx hb dX1_init_16 rfl (lv_at hl 1 rfl) ?_
  refine va_get (D := D) (ci := 1) (v := .ref q_1) (C := RX1) (T := TX1) (N := 2) hx hb hts in_X1_init_X1 hown hK hP 0 rfl rfl 0 (by decide) (hts _ lk_X1_init_f11) (fun _ h9 => h9) rfl dX1_init_17 ?_
  refine va_alen (v := 6) hx hb hK hP 1 4 rfl rfl rfl dX1_init_20 ?_
  refine lv_icmp_ge (tgt := 43) hx hb dX1_init_21 (by decide) (fun h => absurd h (by decide)) (fun _ => ?_)
  refine lv_aload_n hx hb dX1_init_24 rfl (lv_at hl 1 rfl) ?_
  refine va_get (D := D) (ci := 1) (v := .ref q_1) (C := RX1) (T := TX1) (N := 2) hx hb hts in_X1_init_X1 hown hK hP 0 rfl rfl 0 (by decide) (hts _ lk_X1_init_f11) (fun _ h9 => h9) rfl dX1_init_25 ?_
  refine lv_iload_n hx hb dX1_init_28 rfl (lv_at hl 0 rfl) ?_
  refine va_new (ci := 0) (fs := [.int 0, .int 0, .null, .int 0, .null, .null, .int 0, .int 0, .int 0, .int 0]) (C := RX0) (T := TX0) (N := 10) hx hb hts in_X1_init_X0 tyX0 tyX0_ok hown (hts _ lk_X1_init_n9) (hts _ lk_X1_init_tX0) (hts _ lk_X1_init_iX0) hK hP hD hS hA rfl (fun j hj => by revert hj; revert j; exact fun j hj => by match j, hj with | 0, _ => exact rfl | 1, _ => exact rfl | 2, _ => exact rfl | 3, _ => exact rfl | 4, _ => exact rfl | 5, _ => exact rfl | 6, _ => exact rfl | 7, _ => exact rfl | 8, _ => exact rfl | 9, _ => exact rfl | n + 10, h => exact absurd h (by omega)) (Nat.le_of_ble_eq_true rfl) (Nat.le_of_ble_eq_true rfl) dX1_init_29 (fun q_2 H hP hD hS => ?_)
  have hP : va_P D vwCl (([(h0, .inr (1, [.ref q_1, .int 0]))] ++ [(q_1, .inl (ac 4, 6, .inr (.inr (.inr (.inr (fun _ => none))))))]) ++ [(q_2, .inr (0, [.int 0, .int 0, .null, .int 0, .null, .null, .int 0, .int 0, .int 0, .int 0]))]) H := hP
  have hD : va_D A (([(h0, .inr (1, [.ref q_1, .int 0]))] ++ [(q_1, .inl (ac 4, 6, .inr (.inr (.inr (.inr (fun _ => none))))))]) ++ [(q_2, .inr (0, [.int 0, .int 0, .null, .int 0, .null, .null, .int 0, .int 0, .int 0, .int 0]))]) := hD
  refine lv_dup hx hb dX1_init_32 rfl ?_
  refine k_made (ws0 := ([(h0, .inr (1, [.ref q_1, .int 0]))] ++ [(q_1, .inl (ac 4, 6, .inr (.inr (.inr (.inr (fun _ => none))))))])) (va_runIN (As := []) (rest := [.ref q_2, .int 0, .ref q_1]) ⟨hx, hb, hml, hown, hts⟩ (mX0_init l D ac q_2 H.size) ⟨va_cnB 0 hts gX1_init_X0_init_n17 rfl rfl rfl (hN _ nx_method_X1_17) (hts _ lk_X1_init_iX0) (by decide +kernel) ⟨Nat.le_of_ble_eq_true rfl, Nat.le_of_ble_eq_true rfl⟩, rfl, hts _ lk_X1_init_mX0⟩ (k_pre hKA hP) rfl rfl hl.1 rfl (lv_room (Nat.le_of_ble_eq_true rfl)) dX1_init_33 ⟨Nat.le_of_ble_eq_true rfl, Nat.le_of_ble_eq_true rfl⟩) hP hD hS hA (fun u_3 H locs hP hD hS => ?_)
  have hP : va_P D vwCl (([(h0, .inr (1, [.ref q_1, .int 0]))] ++ [(q_1, .inl (ac 4, 6, .inr (.inr (.inr (.inr (fun _ => none))))))]) ++ (wGame ac q_2 (u_3 0) 0)) H := hP
  have hD : va_D A (([(h0, .inr (1, [.ref q_1, .int 0]))] ++ [(q_1, .inl (ac 4, 6, .inr (.inr (.inr (.inr (fun _ => none))))))]) ++ (wGame ac q_2 (u_3 0) 0)) := hD
  refine va_astq (r := (RX0, TX0, 10)) hx hb hK hP hD hS 1 4 2 0 rfl rfl rfl rfl (show vp_in 0 6 from by unfold vp_in; decide) dX1_init_36 (fun H locs hP hD hS => ?_)
  have hP : va_P D vwCl (([(h0, .inr (1, [.ref q_1, .int 0]))] ++ [(q_1, .inl (ac 4, 6, .inr (.inr (.inr (.inr (va_up (fun _ => none) 0 (some q_2)))))))]) ++ (wGame ac q_2 (u_3 0) 0)) H := hP
  have hD : va_D A (([(h0, .inr (1, [.ref q_1, .int 0]))] ++ [(q_1, .inl (ac 4, 6, .inr (.inr (.inr (.inr (va_up (fun _ => none) 0 (some q_2)))))))]) ++ (wGame ac q_2 (u_3 0) 0)) := hD
  refine lv_iinc (v := 1) (lv' := [(1, .int 1), (0, .ref h0)]) hx hb dX1_init_37 hl (k := 0) rfl (by decide) (by decide) rfl (fun ls hl => ?_)
  refine lv_goto (tgt := 15) hx hb dX1_init_40 (by decide) ?_
  refine lv_iload_n hx hb dX1_init_15 rfl (lv_at hl 0 rfl) ?_
  refine lv_aload_n hx hb dX1_init_16 rfl (lv_at hl 1 rfl) ?_
  refine va_get (D := D) (ci := 1) (v := .ref q_1) (C := RX1) (T := TX1) (N := 2) hx hb hts in_X1_init_X1 hown hK hP 0 rfl rfl 0 (by decide) (hts _ lk_X1_init_f11) (fun _ h9 => h9) rfl dX1_init_17 ?_
  refine va_alen (v := 6) hx hb hK hP 1 4 rfl rfl rfl dX1_init_20 ?_
  refine lv_icmp_ge (tgt := 43) hx hb dX1_init_21 (by decide) (fun h => absurd h (by decide)) (fun _ => ?_)
  refine lv_aload_n hx hb dX1_init_24 rfl (lv_at hl 1 rfl) ?_
  refine va_get (D := D) (ci := 1) (v := .ref q_1) (C := RX1) (T := TX1) (N := 2) hx hb hts in_X1_init_X1 hown hK hP 0 rfl rfl 0 (by decide) (hts _ lk_X1_init_f11) (fun _ h9 => h9) rfl dX1_init_25 ?_
  refine lv_iload_n hx hb dX1_init_28 rfl (lv_at hl 0 rfl) ?_
  refine va_new (ci := 0) (fs := [.int 0, .int 0, .null, .int 0, .null, .null, .int 0, .int 0, .int 0, .int 0]) (C := RX0) (T := TX0) (N := 10) hx hb hts in_X1_init_X0 tyX0 tyX0_ok hown (hts _ lk_X1_init_n9) (hts _ lk_X1_init_tX0) (hts _ lk_X1_init_iX0) hK hP hD hS hA rfl (fun j hj => by revert hj; revert j; exact fun j hj => by match j, hj with | 0, _ => exact rfl | 1, _ => exact rfl | 2, _ => exact rfl | 3, _ => exact rfl | 4, _ => exact rfl | 5, _ => exact rfl | 6, _ => exact rfl | 7, _ => exact rfl | 8, _ => exact rfl | 9, _ => exact rfl | n + 10, h => exact absurd h (by omega)) (Nat.le_of_ble_eq_true rfl) (Nat.le_of_ble_eq_true rfl) dX1_init_29 (fun q_4 H hP hD hS => ?_)
  have hP : va_P D vwCl ((([(h0, .inr (1, [.ref q_1, .int 0]))] ++ [(q_1, .inl (ac 4, 6, .inr (.inr (.inr (.inr (va_up (fun _ => none) 0 (some q_2)))))))]) ++ (wGame ac q_2 (u_3 0) 0)) ++ [(q_4, .inr (0, [.int 0, .int 0, .null, .int 0, .null, .null, .int 0, .int 0, .int 0, .int 0]))]) H := hP
  have hD : va_D A ((([(h0, .inr (1, [.ref q_1, .int 0]))] ++ [(q_1, .inl (ac 4, 6, .inr (.inr (.inr (.inr (va_up (fun _ => none) 0 (some q_2)))))))]) ++ (wGame ac q_2 (u_3 0) 0)) ++ [(q_4, .inr (0, [.int 0, .int 0, .null, .int 0, .null, .null, .int 0, .int 0, .int 0, .int 0]))]) := hD
  refine lv_dup hx hb dX1_init_32 rfl ?_
  refine k_made (ws0 := (([(h0, .inr (1, [.ref q_1, .int 0]))] ++ [(q_1, .inl (ac 4, 6, .inr (.inr (.inr (.inr (va_up (fun _ => none) 0 (some q_2)))))))]) ++ (wGame ac q_2 (u_3 0) 0))) (va_runIN (As := []) (rest := [.ref q_4, .int 1, .ref q_1]) ⟨hx, hb, hml, hown, hts⟩ (mX0_init l D ac q_4 H.size) ⟨va_cnB 0 hts gX1_init_X0_init_n17 rfl rfl rfl (hN _ nx_method_X1_17) (hts _ lk_X1_init_iX0) (by decide +kernel) ⟨Nat.le_of_ble_eq_true rfl, Nat.le_of_ble_eq_true rfl⟩, rfl, hts _ lk_X1_init_mX0⟩ (k_pre hKA hP) rfl rfl hl.1 rfl (lv_room (Nat.le_of_ble_eq_true rfl)) dX1_init_33 ⟨Nat.le_of_ble_eq_true rfl, Nat.le_of_ble_eq_true rfl⟩) hP hD hS hA (fun u_5 H locs hP hD hS => ?_)
  have hP : va_P D vwCl ((([(h0, .inr (1, [.ref q_1, .int 0]))] ++ [(q_1, .inl (ac 4, 6, .inr (.inr (.inr (.inr (va_up (fun _ => none) 0 (some q_2)))))))]) ++ (wGame ac q_2 (u_3 0) 0)) ++ (wGame ac q_4 (u_5 0) 0)) H := hP
  have hD : va_D A ((([(h0, .inr (1, [.ref q_1, .int 0]))] ++ [(q_1, .inl (ac 4, 6, .inr (.inr (.inr (.inr (va_up (fun _ => none) 0 (some q_2)))))))]) ++ (wGame ac q_2 (u_3 0) 0)) ++ (wGame ac q_4 (u_5 0) 0)) := hD
  refine va_astq (r := (RX0, TX0, 10)) hx hb hK hP hD hS 1 4 10 0 rfl rfl rfl rfl (show vp_in 1 6 from by unfold vp_in; decide) dX1_init_36 (fun H locs hP hD hS => ?_)
  have hP : va_P D vwCl ((([(h0, .inr (1, [.ref q_1, .int 0]))] ++ [(q_1, .inl (ac 4, 6, .inr (.inr (.inr (.inr (va_up (va_up (fun _ => none) 0 (some q_2)) 1 (some q_4)))))))]) ++ (wGame ac q_2 (u_3 0) 0)) ++ (wGame ac q_4 (u_5 0) 0)) H := hP
  have hD : va_D A ((([(h0, .inr (1, [.ref q_1, .int 0]))] ++ [(q_1, .inl (ac 4, 6, .inr (.inr (.inr (.inr (va_up (va_up (fun _ => none) 0 (some q_2)) 1 (some q_4)))))))]) ++ (wGame ac q_2 (u_3 0) 0)) ++ (wGame ac q_4 (u_5 0) 0)) := hD
  refine lv_iinc (v := 2) (lv' := [(1, .int 2), (0, .ref h0)]) hx hb dX1_init_37 hl (k := 0) rfl (by decide) (by decide) rfl (fun ls hl => ?_)
  refine lv_goto (tgt := 15) hx hb dX1_init_40 (by decide) ?_
  refine lv_iload_n hx hb dX1_init_15 rfl (lv_at hl 0 rfl) ?_
  refine lv_aload_n hx hb dX1_init_16 rfl (lv_at hl 1 rfl) ?_
  refine va_get (D := D) (ci := 1) (v := .ref q_1) (C := RX1) (T := TX1) (N := 2) hx hb hts in_X1_init_X1 hown hK hP 0 rfl rfl 0 (by decide) (hts _ lk_X1_init_f11) (fun _ h9 => h9) rfl dX1_init_17 ?_
  refine va_alen (v := 6) hx hb hK hP 1 4 rfl rfl rfl dX1_init_20 ?_
  refine lv_icmp_ge (tgt := 43) hx hb dX1_init_21 (by decide) (fun h => absurd h (by decide)) (fun _ => ?_)
  refine lv_aload_n hx hb dX1_init_24 rfl (lv_at hl 1 rfl) ?_
  refine va_get (D := D) (ci := 1) (v := .ref q_1) (C := RX1) (T := TX1) (N := 2) hx hb hts in_X1_init_X1 hown hK hP 0 rfl rfl 0 (by decide) (hts _ lk_X1_init_f11) (fun _ h9 => h9) rfl dX1_init_25 ?_
  refine lv_iload_n hx hb dX1_init_28 rfl (lv_at hl 0 rfl) ?_
  refine va_new (ci := 0) (fs := [.int 0, .int 0, .null, .int 0, .null, .null, .int 0, .int 0, .int 0, .int 0]) (C := RX0) (T := TX0) (N := 10) hx hb hts in_X1_init_X0 tyX0 tyX0_ok hown (hts _ lk_X1_init_n9) (hts _ lk_X1_init_tX0) (hts _ lk_X1_init_iX0) hK hP hD hS hA rfl (fun j hj => by revert hj; revert j; exact fun j hj => by match j, hj with | 0, _ => exact rfl | 1, _ => exact rfl | 2, _ => exact rfl | 3, _ => exact rfl | 4, _ => exact rfl | 5, _ => exact rfl | 6, _ => exact rfl | 7, _ => exact rfl | 8, _ => exact rfl | 9, _ => exact rfl | n + 10, h => exact absurd h (by omega)) (Nat.le_of_ble_eq_true rfl) (Nat.le_of_ble_eq_true rfl) dX1_init_29 (fun q_6 H hP hD hS => ?_)
  have hP : va_P D vwCl (((([(h0, .inr (1, [.ref q_1, .int 0]))] ++ [(q_1, .inl (ac 4, 6, .inr (.inr (.inr (.inr (va_up (va_up (fun _ => none) 0 (some q_2)) 1 (some q_4)))))))]) ++ (wGame ac q_2 (u_3 0) 0)) ++ (wGame ac q_4 (u_5 0) 0)) ++ [(q_6, .inr (0, [.int 0, .int 0, .null, .int 0, .null, .null, .int 0, .int 0, .int 0, .int 0]))]) H := hP
  have hD : va_D A (((([(h0, .inr (1, [.ref q_1, .int 0]))] ++ [(q_1, .inl (ac 4, 6, .inr (.inr (.inr (.inr (va_up (va_up (fun _ => none) 0 (some q_2)) 1 (some q_4)))))))]) ++ (wGame ac q_2 (u_3 0) 0)) ++ (wGame ac q_4 (u_5 0) 0)) ++ [(q_6, .inr (0, [.int 0, .int 0, .null, .int 0, .null, .null, .int 0, .int 0, .int 0, .int 0]))]) := hD
  refine lv_dup hx hb dX1_init_32 rfl ?_
  refine k_made (ws0 := ((([(h0, .inr (1, [.ref q_1, .int 0]))] ++ [(q_1, .inl (ac 4, 6, .inr (.inr (.inr (.inr (va_up (va_up (fun _ => none) 0 (some q_2)) 1 (some q_4)))))))]) ++ (wGame ac q_2 (u_3 0) 0)) ++ (wGame ac q_4 (u_5 0) 0))) (va_runIN (As := []) (rest := [.ref q_6, .int 2, .ref q_1]) ⟨hx, hb, hml, hown, hts⟩ (mX0_init l D ac q_6 H.size) ⟨va_cnB 0 hts gX1_init_X0_init_n17 rfl rfl rfl (hN _ nx_method_X1_17) (hts _ lk_X1_init_iX0) (by decide +kernel) ⟨Nat.le_of_ble_eq_true rfl, Nat.le_of_ble_eq_true rfl⟩, rfl, hts _ lk_X1_init_mX0⟩ (k_pre hKA hP) rfl rfl hl.1 rfl (lv_room (Nat.le_of_ble_eq_true rfl)) dX1_init_33 ⟨Nat.le_of_ble_eq_true rfl, Nat.le_of_ble_eq_true rfl⟩) hP hD hS hA (fun u_7 H locs hP hD hS => ?_)
  have hP : va_P D vwCl (((([(h0, .inr (1, [.ref q_1, .int 0]))] ++ [(q_1, .inl (ac 4, 6, .inr (.inr (.inr (.inr (va_up (va_up (fun _ => none) 0 (some q_2)) 1 (some q_4)))))))]) ++ (wGame ac q_2 (u_3 0) 0)) ++ (wGame ac q_4 (u_5 0) 0)) ++ (wGame ac q_6 (u_7 0) 0)) H := hP
  have hD : va_D A (((([(h0, .inr (1, [.ref q_1, .int 0]))] ++ [(q_1, .inl (ac 4, 6, .inr (.inr (.inr (.inr (va_up (va_up (fun _ => none) 0 (some q_2)) 1 (some q_4)))))))]) ++ (wGame ac q_2 (u_3 0) 0)) ++ (wGame ac q_4 (u_5 0) 0)) ++ (wGame ac q_6 (u_7 0) 0)) := hD
  refine va_astq (r := (RX0, TX0, 10)) hx hb hK hP hD hS 1 4 18 0 rfl rfl rfl rfl (show vp_in 2 6 from by unfold vp_in; decide) dX1_init_36 (fun H locs hP hD hS => ?_)
  have hP : va_P D vwCl (((([(h0, .inr (1, [.ref q_1, .int 0]))] ++ [(q_1, .inl (ac 4, 6, .inr (.inr (.inr (.inr (va_up (va_up (va_up (fun _ => none) 0 (some q_2)) 1 (some q_4)) 2 (some q_6)))))))]) ++ (wGame ac q_2 (u_3 0) 0)) ++ (wGame ac q_4 (u_5 0) 0)) ++ (wGame ac q_6 (u_7 0) 0)) H := hP
  have hD : va_D A (((([(h0, .inr (1, [.ref q_1, .int 0]))] ++ [(q_1, .inl (ac 4, 6, .inr (.inr (.inr (.inr (va_up (va_up (va_up (fun _ => none) 0 (some q_2)) 1 (some q_4)) 2 (some q_6)))))))]) ++ (wGame ac q_2 (u_3 0) 0)) ++ (wGame ac q_4 (u_5 0) 0)) ++ (wGame ac q_6 (u_7 0) 0)) := hD
  refine lv_iinc (v := 3) (lv' := [(1, .int 3), (0, .ref h0)]) hx hb dX1_init_37 hl (k := 0) rfl (by decide) (by decide) rfl (fun ls hl => ?_)
  refine lv_goto (tgt := 15) hx hb dX1_init_40 (by decide) ?_
  refine lv_iload_n hx hb dX1_init_15 rfl (lv_at hl 0 rfl) ?_
  refine lv_aload_n hx hb dX1_init_16 rfl (lv_at hl 1 rfl) ?_
  refine va_get (D := D) (ci := 1) (v := .ref q_1) (C := RX1) (T := TX1) (N := 2) hx hb hts in_X1_init_X1 hown hK hP 0 rfl rfl 0 (by decide) (hts _ lk_X1_init_f11) (fun _ h9 => h9) rfl dX1_init_17 ?_
  refine va_alen (v := 6) hx hb hK hP 1 4 rfl rfl rfl dX1_init_20 ?_
  refine lv_icmp_ge (tgt := 43) hx hb dX1_init_21 (by decide) (fun h => absurd h (by decide)) (fun _ => ?_)
  refine lv_aload_n hx hb dX1_init_24 rfl (lv_at hl 1 rfl) ?_
  refine va_get (D := D) (ci := 1) (v := .ref q_1) (C := RX1) (T := TX1) (N := 2) hx hb hts in_X1_init_X1 hown hK hP 0 rfl rfl 0 (by decide) (hts _ lk_X1_init_f11) (fun _ h9 => h9) rfl dX1_init_25 ?_
  refine lv_iload_n hx hb dX1_init_28 rfl (lv_at hl 0 rfl) ?_
  refine va_new (ci := 0) (fs := [.int 0, .int 0, .null, .int 0, .null, .null, .int 0, .int 0, .int 0, .int 0]) (C := RX0) (T := TX0) (N := 10) hx hb hts in_X1_init_X0 tyX0 tyX0_ok hown (hts _ lk_X1_init_n9) (hts _ lk_X1_init_tX0) (hts _ lk_X1_init_iX0) hK hP hD hS hA rfl (fun j hj => by revert hj; revert j; exact fun j hj => by match j, hj with | 0, _ => exact rfl | 1, _ => exact rfl | 2, _ => exact rfl | 3, _ => exact rfl | 4, _ => exact rfl | 5, _ => exact rfl | 6, _ => exact rfl | 7, _ => exact rfl | 8, _ => exact rfl | 9, _ => exact rfl | n + 10, h => exact absurd h (by omega)) (Nat.le_of_ble_eq_true rfl) (Nat.le_of_ble_eq_true rfl) dX1_init_29 (fun q_8 H hP hD hS => ?_)
  have hP : va_P D vwCl ((((([(h0, .inr (1, [.ref q_1, .int 0]))] ++ [(q_1, .inl (ac 4, 6, .inr (.inr (.inr (.inr (va_up (va_up (va_up (fun _ => none) 0 (some q_2)) 1 (some q_4)) 2 (some q_6)))))))]) ++ (wGame ac q_2 (u_3 0) 0)) ++ (wGame ac q_4 (u_5 0) 0)) ++ (wGame ac q_6 (u_7 0) 0)) ++ [(q_8, .inr (0, [.int 0, .int 0, .null, .int 0, .null, .null, .int 0, .int 0, .int 0, .int 0]))]) H := hP
  have hD : va_D A ((((([(h0, .inr (1, [.ref q_1, .int 0]))] ++ [(q_1, .inl (ac 4, 6, .inr (.inr (.inr (.inr (va_up (va_up (va_up (fun _ => none) 0 (some q_2)) 1 (some q_4)) 2 (some q_6)))))))]) ++ (wGame ac q_2 (u_3 0) 0)) ++ (wGame ac q_4 (u_5 0) 0)) ++ (wGame ac q_6 (u_7 0) 0)) ++ [(q_8, .inr (0, [.int 0, .int 0, .null, .int 0, .null, .null, .int 0, .int 0, .int 0, .int 0]))]) := hD
  refine lv_dup hx hb dX1_init_32 rfl ?_
  refine k_made (ws0 := (((([(h0, .inr (1, [.ref q_1, .int 0]))] ++ [(q_1, .inl (ac 4, 6, .inr (.inr (.inr (.inr (va_up (va_up (va_up (fun _ => none) 0 (some q_2)) 1 (some q_4)) 2 (some q_6)))))))]) ++ (wGame ac q_2 (u_3 0) 0)) ++ (wGame ac q_4 (u_5 0) 0)) ++ (wGame ac q_6 (u_7 0) 0))) (va_runIN (As := []) (rest := [.ref q_8, .int 3, .ref q_1]) ⟨hx, hb, hml, hown, hts⟩ (mX0_init l D ac q_8 H.size) ⟨va_cnB 0 hts gX1_init_X0_init_n17 rfl rfl rfl (hN _ nx_method_X1_17) (hts _ lk_X1_init_iX0) (by decide +kernel) ⟨Nat.le_of_ble_eq_true rfl, Nat.le_of_ble_eq_true rfl⟩, rfl, hts _ lk_X1_init_mX0⟩ (k_pre hKA hP) rfl rfl hl.1 rfl (lv_room (Nat.le_of_ble_eq_true rfl)) dX1_init_33 ⟨Nat.le_of_ble_eq_true rfl, Nat.le_of_ble_eq_true rfl⟩) hP hD hS hA (fun u_9 H locs hP hD hS => ?_)
  have hP : va_P D vwCl ((((([(h0, .inr (1, [.ref q_1, .int 0]))] ++ [(q_1, .inl (ac 4, 6, .inr (.inr (.inr (.inr (va_up (va_up (va_up (fun _ => none) 0 (some q_2)) 1 (some q_4)) 2 (some q_6)))))))]) ++ (wGame ac q_2 (u_3 0) 0)) ++ (wGame ac q_4 (u_5 0) 0)) ++ (wGame ac q_6 (u_7 0) 0)) ++ (wGame ac q_8 (u_9 0) 0)) H := hP
  have hD : va_D A ((((([(h0, .inr (1, [.ref q_1, .int 0]))] ++ [(q_1, .inl (ac 4, 6, .inr (.inr (.inr (.inr (va_up (va_up (va_up (fun _ => none) 0 (some q_2)) 1 (some q_4)) 2 (some q_6)))))))]) ++ (wGame ac q_2 (u_3 0) 0)) ++ (wGame ac q_4 (u_5 0) 0)) ++ (wGame ac q_6 (u_7 0) 0)) ++ (wGame ac q_8 (u_9 0) 0)) := hD
  refine va_astq (r := (RX0, TX0, 10)) hx hb hK hP hD hS 1 4 26 0 rfl rfl rfl rfl (show vp_in 3 6 from by unfold vp_in; decide) dX1_init_36 (fun H locs hP hD hS => ?_)
  have hP : va_P D vwCl ((((([(h0, .inr (1, [.ref q_1, .int 0]))] ++ [(q_1, .inl (ac 4, 6, .inr (.inr (.inr (.inr (va_up (va_up (va_up (va_up (fun _ => none) 0 (some q_2)) 1 (some q_4)) 2 (some q_6)) 3 (some q_8)))))))]) ++ (wGame ac q_2 (u_3 0) 0)) ++ (wGame ac q_4 (u_5 0) 0)) ++ (wGame ac q_6 (u_7 0) 0)) ++ (wGame ac q_8 (u_9 0) 0)) H := hP
  have hD : va_D A ((((([(h0, .inr (1, [.ref q_1, .int 0]))] ++ [(q_1, .inl (ac 4, 6, .inr (.inr (.inr (.inr (va_up (va_up (va_up (va_up (fun _ => none) 0 (some q_2)) 1 (some q_4)) 2 (some q_6)) 3 (some q_8)))))))]) ++ (wGame ac q_2 (u_3 0) 0)) ++ (wGame ac q_4 (u_5 0) 0)) ++ (wGame ac q_6 (u_7 0) 0)) ++ (wGame ac q_8 (u_9 0) 0)) := hD
  refine lv_iinc (v := 4) (lv' := [(1, .int 4), (0, .ref h0)]) hx hb dX1_init_37 hl (k := 0) rfl (by decide) (by decide) rfl (fun ls hl => ?_)
  refine lv_goto (tgt := 15) hx hb dX1_init_40 (by decide) ?_
  refine lv_iload_n hx hb dX1_init_15 rfl (lv_at hl 0 rfl) ?_
  refine lv_aload_n hx hb dX1_init_16 rfl (lv_at hl 1 rfl) ?_
  refine va_get (D := D) (ci := 1) (v := .ref q_1) (C := RX1) (T := TX1) (N := 2) hx hb hts in_X1_init_X1 hown hK hP 0 rfl rfl 0 (by decide) (hts _ lk_X1_init_f11) (fun _ h9 => h9) rfl dX1_init_17 ?_
  refine va_alen (v := 6) hx hb hK hP 1 4 rfl rfl rfl dX1_init_20 ?_
  refine lv_icmp_ge (tgt := 43) hx hb dX1_init_21 (by decide) (fun h => absurd h (by decide)) (fun _ => ?_)
  refine lv_aload_n hx hb dX1_init_24 rfl (lv_at hl 1 rfl) ?_
  refine va_get (D := D) (ci := 1) (v := .ref q_1) (C := RX1) (T := TX1) (N := 2) hx hb hts in_X1_init_X1 hown hK hP 0 rfl rfl 0 (by decide) (hts _ lk_X1_init_f11) (fun _ h9 => h9) rfl dX1_init_25 ?_
  refine lv_iload_n hx hb dX1_init_28 rfl (lv_at hl 0 rfl) ?_
  refine va_new (ci := 0) (fs := [.int 0, .int 0, .null, .int 0, .null, .null, .int 0, .int 0, .int 0, .int 0]) (C := RX0) (T := TX0) (N := 10) hx hb hts in_X1_init_X0 tyX0 tyX0_ok hown (hts _ lk_X1_init_n9) (hts _ lk_X1_init_tX0) (hts _ lk_X1_init_iX0) hK hP hD hS hA rfl (fun j hj => by revert hj; revert j; exact fun j hj => by match j, hj with | 0, _ => exact rfl | 1, _ => exact rfl | 2, _ => exact rfl | 3, _ => exact rfl | 4, _ => exact rfl | 5, _ => exact rfl | 6, _ => exact rfl | 7, _ => exact rfl | 8, _ => exact rfl | 9, _ => exact rfl | n + 10, h => exact absurd h (by omega)) (Nat.le_of_ble_eq_true rfl) (Nat.le_of_ble_eq_true rfl) dX1_init_29 (fun q_10 H hP hD hS => ?_)
  have hP : va_P D vwCl (((((([(h0, .inr (1, [.ref q_1, .int 0]))] ++ [(q_1, .inl (ac 4, 6, .inr (.inr (.inr (.inr (va_up (va_up (va_up (va_up (fun _ => none) 0 (some q_2)) 1 (some q_4)) 2 (some q_6)) 3 (some q_8)))))))]) ++ (wGame ac q_2 (u_3 0) 0)) ++ (wGame ac q_4 (u_5 0) 0)) ++ (wGame ac q_6 (u_7 0) 0)) ++ (wGame ac q_8 (u_9 0) 0)) ++ [(q_10, .inr (0, [.int 0, .int 0, .null, .int 0, .null, .null, .int 0, .int 0, .int 0, .int 0]))]) H := hP
  have hD : va_D A (((((([(h0, .inr (1, [.ref q_1, .int 0]))] ++ [(q_1, .inl (ac 4, 6, .inr (.inr (.inr (.inr (va_up (va_up (va_up (va_up (fun _ => none) 0 (some q_2)) 1 (some q_4)) 2 (some q_6)) 3 (some q_8)))))))]) ++ (wGame ac q_2 (u_3 0) 0)) ++ (wGame ac q_4 (u_5 0) 0)) ++ (wGame ac q_6 (u_7 0) 0)) ++ (wGame ac q_8 (u_9 0) 0)) ++ [(q_10, .inr (0, [.int 0, .int 0, .null, .int 0, .null, .null, .int 0, .int 0, .int 0, .int 0]))]) := hD
  refine lv_dup hx hb dX1_init_32 rfl ?_
  refine k_made (ws0 := ((((([(h0, .inr (1, [.ref q_1, .int 0]))] ++ [(q_1, .inl (ac 4, 6, .inr (.inr (.inr (.inr (va_up (va_up (va_up (va_up (fun _ => none) 0 (some q_2)) 1 (some q_4)) 2 (some q_6)) 3 (some q_8)))))))]) ++ (wGame ac q_2 (u_3 0) 0)) ++ (wGame ac q_4 (u_5 0) 0)) ++ (wGame ac q_6 (u_7 0) 0)) ++ (wGame ac q_8 (u_9 0) 0))) (va_runIN (As := []) (rest := [.ref q_10, .int 4, .ref q_1]) ⟨hx, hb, hml, hown, hts⟩ (mX0_init l D ac q_10 H.size) ⟨va_cnB 0 hts gX1_init_X0_init_n17 rfl rfl rfl (hN _ nx_method_X1_17) (hts _ lk_X1_init_iX0) (by decide +kernel) ⟨Nat.le_of_ble_eq_true rfl, Nat.le_of_ble_eq_true rfl⟩, rfl, hts _ lk_X1_init_mX0⟩ (k_pre hKA hP) rfl rfl hl.1 rfl (lv_room (Nat.le_of_ble_eq_true rfl)) dX1_init_33 ⟨Nat.le_of_ble_eq_true rfl, Nat.le_of_ble_eq_true rfl⟩) hP hD hS hA (fun u_11 H locs hP hD hS => ?_)
  have hP : va_P D vwCl (((((([(h0, .inr (1, [.ref q_1, .int 0]))] ++ [(q_1, .inl (ac 4, 6, .inr (.inr (.inr (.inr (va_up (va_up (va_up (va_up (fun _ => none) 0 (some q_2)) 1 (some q_4)) 2 (some q_6)) 3 (some q_8)))))))]) ++ (wGame ac q_2 (u_3 0) 0)) ++ (wGame ac q_4 (u_5 0) 0)) ++ (wGame ac q_6 (u_7 0) 0)) ++ (wGame ac q_8 (u_9 0) 0)) ++ (wGame ac q_10 (u_11 0) 0)) H := hP
  have hD : va_D A (((((([(h0, .inr (1, [.ref q_1, .int 0]))] ++ [(q_1, .inl (ac 4, 6, .inr (.inr (.inr (.inr (va_up (va_up (va_up (va_up (fun _ => none) 0 (some q_2)) 1 (some q_4)) 2 (some q_6)) 3 (some q_8)))))))]) ++ (wGame ac q_2 (u_3 0) 0)) ++ (wGame ac q_4 (u_5 0) 0)) ++ (wGame ac q_6 (u_7 0) 0)) ++ (wGame ac q_8 (u_9 0) 0)) ++ (wGame ac q_10 (u_11 0) 0)) := hD
  refine va_astq (r := (RX0, TX0, 10)) hx hb hK hP hD hS 1 4 34 0 rfl rfl rfl rfl (show vp_in 4 6 from by unfold vp_in; decide) dX1_init_36 (fun H locs hP hD hS => ?_)
  have hP : va_P D vwCl (((((([(h0, .inr (1, [.ref q_1, .int 0]))] ++ [(q_1, .inl (ac 4, 6, .inr (.inr (.inr (.inr (va_up (va_up (va_up (va_up (va_up (fun _ => none) 0 (some q_2)) 1 (some q_4)) 2 (some q_6)) 3 (some q_8)) 4 (some q_10)))))))]) ++ (wGame ac q_2 (u_3 0) 0)) ++ (wGame ac q_4 (u_5 0) 0)) ++ (wGame ac q_6 (u_7 0) 0)) ++ (wGame ac q_8 (u_9 0) 0)) ++ (wGame ac q_10 (u_11 0) 0)) H := hP
  have hD : va_D A (((((([(h0, .inr (1, [.ref q_1, .int 0]))] ++ [(q_1, .inl (ac 4, 6, .inr (.inr (.inr (.inr (va_up (va_up (va_up (va_up (va_up (fun _ => none) 0 (some q_2)) 1 (some q_4)) 2 (some q_6)) 3 (some q_8)) 4 (some q_10)))))))]) ++ (wGame ac q_2 (u_3 0) 0)) ++ (wGame ac q_4 (u_5 0) 0)) ++ (wGame ac q_6 (u_7 0) 0)) ++ (wGame ac q_8 (u_9 0) 0)) ++ (wGame ac q_10 (u_11 0) 0)) := hD
  refine lv_iinc (v := 5) (lv' := [(1, .int 5), (0, .ref h0)]) hx hb dX1_init_37 hl (k := 0) rfl (by decide) (by decide) rfl (fun ls hl => ?_)
  refine lv_goto (tgt := 15) hx hb dX1_init_40 (by decide) ?_
  refine lv_iload_n hx hb dX1_init_15 rfl (lv_at hl 0 rfl) ?_
  refine lv_aload_n hx hb dX1_init_16 rfl (lv_at hl 1 rfl) ?_
  refine va_get (D := D) (ci := 1) (v := .ref q_1) (C := RX1) (T := TX1) (N := 2) hx hb hts in_X1_init_X1 hown hK hP 0 rfl rfl 0 (by decide) (hts _ lk_X1_init_f11) (fun _ h9 => h9) rfl dX1_init_17 ?_
  refine va_alen (v := 6) hx hb hK hP 1 4 rfl rfl rfl dX1_init_20 ?_
  refine lv_icmp_ge (tgt := 43) hx hb dX1_init_21 (by decide) (fun h => absurd h (by decide)) (fun _ => ?_)
  refine lv_aload_n hx hb dX1_init_24 rfl (lv_at hl 1 rfl) ?_
  refine va_get (D := D) (ci := 1) (v := .ref q_1) (C := RX1) (T := TX1) (N := 2) hx hb hts in_X1_init_X1 hown hK hP 0 rfl rfl 0 (by decide) (hts _ lk_X1_init_f11) (fun _ h9 => h9) rfl dX1_init_25 ?_
  refine lv_iload_n hx hb dX1_init_28 rfl (lv_at hl 0 rfl) ?_
  refine va_new (ci := 0) (fs := [.int 0, .int 0, .null, .int 0, .null, .null, .int 0, .int 0, .int 0, .int 0]) (C := RX0) (T := TX0) (N := 10) hx hb hts in_X1_init_X0 tyX0 tyX0_ok hown (hts _ lk_X1_init_n9) (hts _ lk_X1_init_tX0) (hts _ lk_X1_init_iX0) hK hP hD hS hA rfl (fun j hj => by revert hj; revert j; exact fun j hj => by match j, hj with | 0, _ => exact rfl | 1, _ => exact rfl | 2, _ => exact rfl | 3, _ => exact rfl | 4, _ => exact rfl | 5, _ => exact rfl | 6, _ => exact rfl | 7, _ => exact rfl | 8, _ => exact rfl | 9, _ => exact rfl | n + 10, h => exact absurd h (by omega)) (Nat.le_of_ble_eq_true rfl) (Nat.le_of_ble_eq_true rfl) dX1_init_29 (fun q_12 H hP hD hS => ?_)
  have hP : va_P D vwCl ((((((([(h0, .inr (1, [.ref q_1, .int 0]))] ++ [(q_1, .inl (ac 4, 6, .inr (.inr (.inr (.inr (va_up (va_up (va_up (va_up (va_up (fun _ => none) 0 (some q_2)) 1 (some q_4)) 2 (some q_6)) 3 (some q_8)) 4 (some q_10)))))))]) ++ (wGame ac q_2 (u_3 0) 0)) ++ (wGame ac q_4 (u_5 0) 0)) ++ (wGame ac q_6 (u_7 0) 0)) ++ (wGame ac q_8 (u_9 0) 0)) ++ (wGame ac q_10 (u_11 0) 0)) ++ [(q_12, .inr (0, [.int 0, .int 0, .null, .int 0, .null, .null, .int 0, .int 0, .int 0, .int 0]))]) H := hP
  have hD : va_D A ((((((([(h0, .inr (1, [.ref q_1, .int 0]))] ++ [(q_1, .inl (ac 4, 6, .inr (.inr (.inr (.inr (va_up (va_up (va_up (va_up (va_up (fun _ => none) 0 (some q_2)) 1 (some q_4)) 2 (some q_6)) 3 (some q_8)) 4 (some q_10)))))))]) ++ (wGame ac q_2 (u_3 0) 0)) ++ (wGame ac q_4 (u_5 0) 0)) ++ (wGame ac q_6 (u_7 0) 0)) ++ (wGame ac q_8 (u_9 0) 0)) ++ (wGame ac q_10 (u_11 0) 0)) ++ [(q_12, .inr (0, [.int 0, .int 0, .null, .int 0, .null, .null, .int 0, .int 0, .int 0, .int 0]))]) := hD
  refine lv_dup hx hb dX1_init_32 rfl ?_
  refine k_made (ws0 := (((((([(h0, .inr (1, [.ref q_1, .int 0]))] ++ [(q_1, .inl (ac 4, 6, .inr (.inr (.inr (.inr (va_up (va_up (va_up (va_up (va_up (fun _ => none) 0 (some q_2)) 1 (some q_4)) 2 (some q_6)) 3 (some q_8)) 4 (some q_10)))))))]) ++ (wGame ac q_2 (u_3 0) 0)) ++ (wGame ac q_4 (u_5 0) 0)) ++ (wGame ac q_6 (u_7 0) 0)) ++ (wGame ac q_8 (u_9 0) 0)) ++ (wGame ac q_10 (u_11 0) 0))) (va_runIN (As := []) (rest := [.ref q_12, .int 5, .ref q_1]) ⟨hx, hb, hml, hown, hts⟩ (mX0_init l D ac q_12 H.size) ⟨va_cnB 0 hts gX1_init_X0_init_n17 rfl rfl rfl (hN _ nx_method_X1_17) (hts _ lk_X1_init_iX0) (by decide +kernel) ⟨Nat.le_of_ble_eq_true rfl, Nat.le_of_ble_eq_true rfl⟩, rfl, hts _ lk_X1_init_mX0⟩ (k_pre hKA hP) rfl rfl hl.1 rfl (lv_room (Nat.le_of_ble_eq_true rfl)) dX1_init_33 ⟨Nat.le_of_ble_eq_true rfl, Nat.le_of_ble_eq_true rfl⟩) hP hD hS hA (fun u_13 H locs hP hD hS => ?_)
  have hP : va_P D vwCl ((((((([(h0, .inr (1, [.ref q_1, .int 0]))] ++ [(q_1, .inl (ac 4, 6, .inr (.inr (.inr (.inr (va_up (va_up (va_up (va_up (va_up (fun _ => none) 0 (some q_2)) 1 (some q_4)) 2 (some q_6)) 3 (some q_8)) 4 (some q_10)))))))]) ++ (wGame ac q_2 (u_3 0) 0)) ++ (wGame ac q_4 (u_5 0) 0)) ++ (wGame ac q_6 (u_7 0) 0)) ++ (wGame ac q_8 (u_9 0) 0)) ++ (wGame ac q_10 (u_11 0) 0)) ++ (wGame ac q_12 (u_13 0) 0)) H := hP
  have hD : va_D A ((((((([(h0, .inr (1, [.ref q_1, .int 0]))] ++ [(q_1, .inl (ac 4, 6, .inr (.inr (.inr (.inr (va_up (va_up (va_up (va_up (va_up (fun _ => none) 0 (some q_2)) 1 (some q_4)) 2 (some q_6)) 3 (some q_8)) 4 (some q_10)))))))]) ++ (wGame ac q_2 (u_3 0) 0)) ++ (wGame ac q_4 (u_5 0) 0)) ++ (wGame ac q_6 (u_7 0) 0)) ++ (wGame ac q_8 (u_9 0) 0)) ++ (wGame ac q_10 (u_11 0) 0)) ++ (wGame ac q_12 (u_13 0) 0)) := hD
  refine va_astq (r := (RX0, TX0, 10)) hx hb hK hP hD hS 1 4 42 0 rfl rfl rfl rfl (show vp_in 5 6 from by unfold vp_in; decide) dX1_init_36 (fun H locs hP hD hS => ?_)
  have hP : va_P D vwCl ((((((([(h0, .inr (1, [.ref q_1, .int 0]))] ++ [(q_1, .inl (ac 4, 6, .inr (.inr (.inr (.inr (va_up (va_up (va_up (va_up (va_up (va_up (fun _ => none) 0 (some q_2)) 1 (some q_4)) 2 (some q_6)) 3 (some q_8)) 4 (some q_10)) 5 (some q_12)))))))]) ++ (wGame ac q_2 (u_3 0) 0)) ++ (wGame ac q_4 (u_5 0) 0)) ++ (wGame ac q_6 (u_7 0) 0)) ++ (wGame ac q_8 (u_9 0) 0)) ++ (wGame ac q_10 (u_11 0) 0)) ++ (wGame ac q_12 (u_13 0) 0)) H := hP
  have hD : va_D A ((((((([(h0, .inr (1, [.ref q_1, .int 0]))] ++ [(q_1, .inl (ac 4, 6, .inr (.inr (.inr (.inr (va_up (va_up (va_up (va_up (va_up (va_up (fun _ => none) 0 (some q_2)) 1 (some q_4)) 2 (some q_6)) 3 (some q_8)) 4 (some q_10)) 5 (some q_12)))))))]) ++ (wGame ac q_2 (u_3 0) 0)) ++ (wGame ac q_4 (u_5 0) 0)) ++ (wGame ac q_6 (u_7 0) 0)) ++ (wGame ac q_8 (u_9 0) 0)) ++ (wGame ac q_10 (u_11 0) 0)) ++ (wGame ac q_12 (u_13 0) 0)) := hD
  refine lv_iinc (v := 6) (lv' := [(1, .int 6), (0, .ref h0)]) hx hb dX1_init_37 hl (k := 0) rfl (by decide) (by decide) rfl (fun ls hl => ?_)
  refine lv_goto (tgt := 15) hx hb dX1_init_40 (by decide) ?_
  refine lv_iload_n hx hb dX1_init_15 rfl (lv_at hl 0 rfl) ?_
  refine lv_aload_n hx hb dX1_init_16 rfl (lv_at hl 1 rfl) ?_
  refine va_get (D := D) (ci := 1) (v := .ref q_1) (C := RX1) (T := TX1) (N := 2) hx hb hts in_X1_init_X1 hown hK hP 0 rfl rfl 0 (by decide) (hts _ lk_X1_init_f11) (fun _ h9 => h9) rfl dX1_init_17 ?_
  refine va_alen (v := 6) hx hb hK hP 1 4 rfl rfl rfl dX1_init_20 ?_
  refine lv_icmp_ge (tgt := 43) hx hb dX1_init_21 (by decide) (fun _ => ?_) (fun h => absurd (by decide) h)
  have hP : va_P D vwCl ((((((([(h0, .inr (1, [.ref q_1, .int 0]))] ++ [(q_1, .inl (ac 4, 6, .inr (.inr (.inr (.inr (fun j => some ([q_1, q_2, q_4, q_6, q_8, q_10, q_12].getD (1 + j) 0)))))))]) ++ (wGame ac q_2 (u_3 0) 0)) ++ (wGame ac q_4 (u_5 0) 0)) ++ (wGame ac q_6 (u_7 0) 0)) ++ (wGame ac q_8 (u_9 0) 0)) ++ (wGame ac q_10 (u_11 0) 0)) ++ (wGame ac q_12 (u_13 0) 0)) H := hP.refs (f' := (fun j => some ([q_1, q_2, q_4, q_6, q_8, q_10, q_12].getD (1 + j) 0))) 1 rfl (fun j hj => by match j, hj with | 0, _ => exact rfl | 1, _ => exact rfl | 2, _ => exact rfl | 3, _ => exact rfl | 4, _ => exact rfl | 5, _ => exact rfl | n + 6, h => exact absurd h (by omega)) rfl
  have hD : va_D A ((((((([(h0, .inr (1, [.ref q_1, .int 0]))] ++ [(q_1, .inl (ac 4, 6, .inr (.inr (.inr (.inr (fun j => some ([q_1, q_2, q_4, q_6, q_8, q_10, q_12].getD (1 + j) 0)))))))]) ++ (wGame ac q_2 (u_3 0) 0)) ++ (wGame ac q_4 (u_5 0) 0)) ++ (wGame ac q_6 (u_7 0) 0)) ++ (wGame ac q_8 (u_9 0) 0)) ++ (wGame ac q_10 (u_11 0) 0)) ++ (wGame ac q_12 (u_13 0) 0)) := hD.setD 1 rfl rfl
  refine W.widen (k := 49) (n := 210) (Nat.le_of_ble_eq_true rfl) (Nat.le_of_ble_eq_true rfl) ?_
  exact W.vret hx hb hr (fun t ht hW => ⟨⟨(fun k => [(fun j => [q_1, q_2, q_4, q_6, q_8, q_10, q_12].getD j 0), (u_3 0), (u_5 0), (u_7 0), (u_9 0), (u_11 0), (u_13 0)].getD k (fun _ => 0)), rfl, trivial, by rw [ht]; exact hP, hD⟩, hS.F ht⟩) hS.2.2 dX1_init_43
theorem in_X6_init_X0 : ∀ w ∈ u_ws RX0 TX0 10, w ∈ wsX6_init := by decide +kernel
theorem in_X6_init_X6 : ∀ w ∈ u_ws RX6 TX6 2, w ∈ wsX6_init := by decide +kernel
theorem lk_X6_init_f10 : Cond.fieldLink RX6 10 "PoisonPiles$Slot" "game" "LPoisonPiles$Game;" ∈ wsX6_init := by decide +kernel
theorem lk_X6_init_iX0 : Cond.initialized RX0 ∈ wsX6_init := by decide +kernel
theorem lk_X6_init_mX0 : Cond.instanceMethod yX0_init ∈ wsX6_init := by decide +kernel
theorem lk_X6_init_n7 : Cond.classLink RX6 7 RX0 ∈ wsX6_init := by decide +kernel
theorem lk_X6_init_o1 : Cond.methodLink RX6 1 objectInit ∈ wsX6_init := by decide +kernel
theorem lk_X6_init_o2 : Cond.instanceMethod objectInit ∈ wsX6_init := by decide +kernel
theorem lk_X6_init_o3 : Cond.code objectInit ⟨#[0xb1]⟩ 1 none ∈ wsX6_init := by decide +kernel
theorem lk_X6_init_tX0 : Cond.instantiable RX0 10 ∈ wsX6_init := by decide +kernel
set_option maxHeartbeats 4000000 in
set_option maxRecDepth 100000 in
theorem mX6_init (l : Launch) (D : va_G) (ac : Nat → ClassId) (h0 sz : Nat) : Cn l yX6_init wsX6_init ({ frames := 3, cells := 8, slots := 34, locals := 53 }) D ac h0 6 [.null, .int 0] (fun u => wSlot ac h0 u) 8 34 sz := by
  refine Met.ofW (cc := cX6_init) (maxL := 1) (ret := none) (by decide +kernel) rfl ?_
  intro p e s m args below meth c s₁ B hml hv
  obtain ⟨rfl, hsz, hP, hKA⟩ := hv
  have hK := hKA.1
  have hN := hKA.2.1
  have hAO := hKA.2.2
  have hx := B.exec
  have hb := B.bytes
  have hr := B.returns
  have hts := atoms_spec (ws := wsX6_init) B.pre
  have hown : s.vm.findClass RX6 = some m.cls := findClass_of_methodNamed B.named
  have hlocks := B.notSynchronized
  have hin : meth.name = "<init>" := (name_of_methodNamed B.named B.method).1
  subst hsz
  have hD0 : va_D (fun _ => True) [(h0, .inr (6, [.null, .int 0]))] := ⟨fun i j p q hi hj _ => by have h1 := (List.getElem?_eq_some_iff.mp hi).1; have h2 := (List.getElem?_eq_some_iff.mp hj).1; simp only [List.length_cons, List.length_nil] at h1 h2; omega, fun _ _ _ => trivial⟩
  have hD := hD0.self (sz := s.heap.size)
  generalize hAe : va_A [(h0, .inr (6, [.null, .int 0]))] s.heap.size = A at hD ⊢
  have hA : ∀ q : Nat, s.heap.size ≤ q → A q := fun q h => by rw [← hAe]; exact Or.inr h
  have hS : va_S A s.heap s.heap [] := va_S.rf
  have hP : va_P D vwCl [(h0, .inr (6, [.null, .int 0]))] s.heap := hP
  have hl := lv_entry ([.ref h0]) (n := 1) (Nat.le_of_ble_eq_true rfl)
  rw [lg_entry_eq]
  generalize (lg_sl ([.ref h0]) ++ List.replicate (1 - (lg_sl ([.ref h0])).length) Slot.unset).toArray = ls at hl ⊢
  have hl : lv_has ls 1 [(0, .ref h0)] := hl
  refine lv_aload_n hx hb dX6_init_0 rfl (lv_at hl 0 rfl) ?_
  refine W.objInit hx hb hown (hts _ lk_X6_init_o1) (hts _ lk_X6_init_o2) (hts _ lk_X6_init_o3) rfl (by rw [hml]; exact hl.1) rfl dX6_init_1 (Nat.le_of_ble_eq_true rfl) (Nat.le_of_ble_eq_true rfl) ?_
  refine W.eq (g2 := F0 m 4 ls []) rfl ?_
  refine lv_aload_n hx hb dX6_init_4 rfl (lv_at hl 0 rfl) ?_
  refine va_new (ci := 0) (fs := [.int 0, .int 0, .null, .int 0, .null, .null, .int 0, .int 0, .int 0, .int 0]) (C := RX0) (T := TX0) (N := 10) hx hb hts in_X6_init_X0 tyX0 tyX0_ok hown (hts _ lk_X6_init_n7) (hts _ lk_X6_init_tX0) (hts _ lk_X6_init_iX0) hK hP hD hS hA rfl (fun j hj => by revert hj; revert j; exact fun j hj => by match j, hj with | 0, _ => exact rfl | 1, _ => exact rfl | 2, _ => exact rfl | 3, _ => exact rfl | 4, _ => exact rfl | 5, _ => exact rfl | 6, _ => exact rfl | 7, _ => exact rfl | 8, _ => exact rfl | 9, _ => exact rfl | n + 10, h => exact absurd h (by omega)) (Nat.le_of_ble_eq_true rfl) (Nat.le_of_ble_eq_true rfl) dX6_init_5 (fun q_1 H hP hD hS => ?_)
  have hP : va_P D vwCl ([(h0, .inr (6, [.null, .int 0]))] ++ [(q_1, .inr (0, [.int 0, .int 0, .null, .int 0, .null, .null, .int 0, .int 0, .int 0, .int 0]))]) H := hP
  have hD : va_D A ([(h0, .inr (6, [.null, .int 0]))] ++ [(q_1, .inr (0, [.int 0, .int 0, .null, .int 0, .null, .null, .int 0, .int 0, .int 0, .int 0]))]) := hD
  refine lv_dup hx hb dX6_init_8 rfl ?_
  refine k_made (ws0 := [(h0, .inr (6, [.null, .int 0]))]) (va_runIN (As := []) (rest := [.ref q_1, .ref h0]) ⟨hx, hb, hml, hown, hts⟩ (mX0_init l D ac q_1 H.size) ⟨va_cnB 0 hts gX6_init_X0_init_n9 rfl rfl rfl (hN _ nx_method_X6_9) (hts _ lk_X6_init_iX0) (by decide +kernel) ⟨Nat.le_of_ble_eq_true rfl, Nat.le_of_ble_eq_true rfl⟩, rfl, hts _ lk_X6_init_mX0⟩ (k_pre hKA hP) rfl rfl hl.1 rfl (lv_room (Nat.le_of_ble_eq_true rfl)) dX6_init_9 ⟨Nat.le_of_ble_eq_true rfl, Nat.le_of_ble_eq_true rfl⟩) hP hD hS hA (fun u_2 H locs hP hD hS => ?_)
  have hP : va_P D vwCl ([(h0, .inr (6, [.null, .int 0]))] ++ (wGame ac q_1 (u_2 0) 0)) H := hP
  have hD : va_D A ([(h0, .inr (6, [.null, .int 0]))] ++ (wGame ac q_1 (u_2 0) 0)) := hD
  refine va_putF (D := D) (ci := 6) (v := .ref q_1) (ty := .object "PoisonPiles$Game") (C := RX6) (T := TX6) (N := 2) hx hb hts in_X6_init_X6 tyX6 tyX6_ok nmX6 hown hK hP hD hS 0 rfl rfl 0 (by decide) (hts _ lk_X6_init_f10) (fun _ h9 => h9) rfl hin rfl (by decide +kernel) rfl rfl (Nat.le_of_ble_eq_true rfl) dX6_init_12 (fun H locs hP hD hS => ?_)
  have hP : va_P D vwCl ([(h0, .inr (6, [.ref q_1, .int 0]))] ++ (wGame ac q_1 (u_2 0) 0)) H := hP
  have hD : va_D A ([(h0, .inr (6, [.ref q_1, .int 0]))] ++ (wGame ac q_1 (u_2 0) 0)) := hD
  refine W.widen (k := 8) (n := 34) (Nat.le_of_ble_eq_true rfl) (Nat.le_of_ble_eq_true rfl) ?_
  exact W.vret hx hb hr (fun t ht hW => ⟨⟨(fun k => [(fun j => [q_1].getD j 0), (u_2 0)].getD k (fun _ => 0)), rfl, trivial, by rw [ht]; exact hP, hD⟩, hS.F ht⟩) hS.2.2 dX6_init_15
