theorem in_X7_init_X7 : ∀ w ∈ u_ws RX7 TX7 8, w ∈ wsX7_init := by decide +kernel
theorem lk_X7_init_aint : Cond.arrayClass .int ∈ wsX7_init := by decide +kernel
theorem lk_X7_init_c24 : Cond.constant RX7 24 (-100000) ∈ wsX7_init := by decide +kernel
theorem lk_X7_init_f11 : Cond.fieldLink RX7 11 "PoisonPiles$Solver" "values" "[I" ∈ wsX7_init := by decide +kernel
theorem lk_X7_init_f15 : Cond.fieldLink RX7 15 "PoisonPiles$Solver" "results" "[I" ∈ wsX7_init := by decide +kernel
theorem lk_X7_init_f18 : Cond.fieldLink RX7 18 "PoisonPiles$Solver" "steps" "[I" ∈ wsX7_init := by decide +kernel
theorem lk_X7_init_f21 : Cond.fieldLink RX7 21 "PoisonPiles$Solver" "gained" "[I" ∈ wsX7_init := by decide +kernel
theorem lk_X7_init_f25 : Cond.fieldLink RX7 25 "PoisonPiles$Solver" "knownRules" "I" ∈ wsX7_init := by decide +kernel
theorem lk_X7_init_o1 : Cond.methodLink RX7 5 objectInit ∈ wsX7_init := by decide +kernel
theorem lk_X7_init_o2 : Cond.instanceMethod objectInit ∈ wsX7_init := by decide +kernel
theorem lk_X7_init_o3 : Cond.code objectInit ⟨#[0xb1]⟩ 1 none ∈ wsX7_init := by decide +kernel
set_option maxHeartbeats 4000000 in
set_option maxRecDepth 100000 in
theorem mX7_init (l : Launch) (D : va_G) (ac : Nat → ClassId) (h0 sz : Nat) : Cn l yX7_init wsX7_init ({ frames := 1, cells := 4, slots := 46698, locals := 12 }) D ac h0 7 [.null, .null, .null, .null, .int 0, .int 0, .int 0, .int 0] (fun u => wSolver ac h0 (u 0)) 4 46698 sz := by
  refine Met.ofW (cc := cX7_init) (maxL := 4) (ret := none) (by decide +kernel) rfl ?_
  intro p e s m args below meth c s₁ B hml hv
  obtain ⟨rfl, hsz, hP, hKA⟩ := hv
  have hK := hKA.1
  have hN := hKA.2.1
  have hAO := hKA.2.2
  have hx := B.exec
  have hb := B.bytes
  have hr := B.returns
  have hts := atoms_spec (ws := wsX7_init) B.pre
  have hown : s.vm.findClass RX7 = some m.cls := findClass_of_methodNamed B.named
  have hlocks := B.notSynchronized
  have hin : meth.name = "<init>" := (name_of_methodNamed B.named B.method).1
  subst hsz
  have hD0 : va_D (fun _ => True) [(h0, .inr (7, [.null, .null, .null, .null, .int 0, .int 0, .int 0, .int 0]))] := ⟨fun i j p q hi hj _ => by have h1 := (List.getElem?_eq_some_iff.mp hi).1; have h2 := (List.getElem?_eq_some_iff.mp hj).1; simp only [List.length_cons, List.length_nil] at h1 h2; omega, fun _ _ _ => trivial⟩
  have hD := hD0.self (sz := s.heap.size)
  generalize hAe : va_A [(h0, .inr (7, [.null, .null, .null, .null, .int 0, .int 0, .int 0, .int 0]))] s.heap.size = A at hD ⊢
  have hA : ∀ q : Nat, s.heap.size ≤ q → A q := fun q h => by rw [← hAe]; exact Or.inr h
  have hS : va_S A s.heap s.heap [] := va_S.rf
  have hP : va_P D vwCl [(h0, .inr (7, [.null, .null, .null, .null, .int 0, .int 0, .int 0, .int 0]))] s.heap := hP
  have hl := lv_entry ([.ref h0]) (n := 4) (Nat.le_of_ble_eq_true rfl)
  rw [lg_entry_eq]
  generalize (lg_sl ([.ref h0]) ++ List.replicate (4 - (lg_sl ([.ref h0])).length) Slot.unset).toArray = ls at hl ⊢
  have hl : lv_has ls 4 [(0, .ref h0)] := hl
  refine lv_aload_n hx hb dX7_init_0 rfl (lv_at hl 0 rfl) ?_
  refine W.objInit hx hb hown (hts _ lk_X7_init_o1) (hts _ lk_X7_init_o2) (hts _ lk_X7_init_o3) rfl (by rw [hml]; exact hl.1) rfl dX7_init_1 (Nat.le_of_ble_eq_true rfl) (Nat.le_of_ble_eq_true rfl) ?_
  refine W.eq (g2 := F0 m 4 ls []) rfl ?_
  refine lv_aload_n hx hb dX7_init_4 rfl (lv_at hl 0 rfl) ?_
  refine lv_sipush (v := 23328) hx hb dX7_init_5 (by decide) ?_
  refine k_newa (atype := .int) (t := 0) hx hb (hts _ lk_X7_init_aint) rfl rfl hK rfl hP hD hS hA (N' := 23328) (by decide) (by decide) (by decide) (Nat.le_of_ble_eq_true rfl) (Nat.le_of_ble_eq_true rfl) dX7_init_8 (fun q_1 H hP hD hS => ?_)
  have hP : va_P D vwCl ([(h0, .inr (7, [.null, .null, .null, .null, .int 0, .int 0, .int 0, .int 0]))] ++ [(q_1, .inl (ac 0, 23328, .inl (fun _ => 0)))]) H := hP
  have hD : va_D A ([(h0, .inr (7, [.null, .null, .null, .null, .int 0, .int 0, .int 0, .int 0]))] ++ [(q_1, .inl (ac 0, 23328, .inl (fun _ => 0)))]) := hD
  refine va_putF (D := D) (ci := 7) (v := .ref q_1) (ty := .array .int) (C := RX7) (T := TX7) (N := 8) hx hb hts in_X7_init_X7 tyX7 tyX7_ok nmX7 hown hK hP hD hS 0 rfl rfl 0 (by decide) (hts _ lk_X7_init_f11) (fun _ h9 => h9) rfl hin rfl (by decide +kernel) rfl rfl (Nat.le_of_ble_eq_true rfl) dX7_init_10 (fun H locs hP hD hS => ?_)
  have hP : va_P D vwCl ([(h0, .inr (7, [.ref q_1, .null, .null, .null, .int 0, .int 0, .int 0, .int 0]))] ++ [(q_1, .inl (ac 0, 23328, .inl (fun _ => 0)))]) H := hP
  have hD : va_D A ([(h0, .inr (7, [.ref q_1, .null, .null, .null, .int 0, .int 0, .int 0, .int 0]))] ++ [(q_1, .inl (ac 0, 23328, .inl (fun _ => 0)))]) := hD
  refine lv_aload_n hx hb dX7_init_13 rfl (lv_at hl 0 rfl) ?_
  refine lv_sipush (v := 23328) hx hb dX7_init_14 (by decide) ?_
  refine k_newa (atype := .int) (t := 0) hx hb (hts _ lk_X7_init_aint) rfl rfl hK rfl hP hD hS hA (N' := 23328) (by decide) (by decide) (by decide) (Nat.le_of_ble_eq_true rfl) (Nat.le_of_ble_eq_true rfl) dX7_init_17 (fun q_2 H hP hD hS => ?_)
  have hP : va_P D vwCl (([(h0, .inr (7, [.ref q_1, .null, .null, .null, .int 0, .int 0, .int 0, .int 0]))] ++ [(q_1, .inl (ac 0, 23328, .inl (fun _ => 0)))]) ++ [(q_2, .inl (ac 0, 23328, .inl (fun _ => 0)))]) H := hP
  have hD : va_D A (([(h0, .inr (7, [.ref q_1, .null, .null, .null, .int 0, .int 0, .int 0, .int 0]))] ++ [(q_1, .inl (ac 0, 23328, .inl (fun _ => 0)))]) ++ [(q_2, .inl (ac 0, 23328, .inl (fun _ => 0)))]) := hD
  refine va_putF (D := D) (ci := 7) (v := .ref q_2) (ty := .array .int) (C := RX7) (T := TX7) (N := 8) hx hb hts in_X7_init_X7 tyX7 tyX7_ok nmX7 hown hK hP hD hS 0 rfl rfl 1 (by decide) (hts _ lk_X7_init_f15) (fun _ h9 => h9) rfl hin rfl (by decide +kernel) rfl rfl (Nat.le_of_ble_eq_true rfl) dX7_init_19 (fun H locs hP hD hS => ?_)
  have hP : va_P D vwCl (([(h0, .inr (7, [.ref q_1, .ref q_2, .null, .null, .int 0, .int 0, .int 0, .int 0]))] ++ [(q_1, .inl (ac 0, 23328, .inl (fun _ => 0)))]) ++ [(q_2, .inl (ac 0, 23328, .inl (fun _ => 0)))]) H := hP
  have hD : va_D A (([(h0, .inr (7, [.ref q_1, .ref q_2, .null, .null, .int 0, .int 0, .int 0, .int 0]))] ++ [(q_1, .inl (ac 0, 23328, .inl (fun _ => 0)))]) ++ [(q_2, .inl (ac 0, 23328, .inl (fun _ => 0)))]) := hD
  refine lv_aload_n hx hb dX7_init_22 rfl (lv_at hl 0 rfl) ?_
  refine lv_bipush (v := 21) hx hb dX7_init_23 (by decide) ?_
  refine k_newa (atype := .int) (t := 0) hx hb (hts _ lk_X7_init_aint) rfl rfl hK rfl hP hD hS hA (N' := 21) (by decide) (by decide) (by decide) (Nat.le_of_ble_eq_true rfl) (Nat.le_of_ble_eq_true rfl) dX7_init_25 (fun q_3 H hP hD hS => ?_)
  have hP : va_P D vwCl ((([(h0, .inr (7, [.ref q_1, .ref q_2, .null, .null, .int 0, .int 0, .int 0, .int 0]))] ++ [(q_1, .inl (ac 0, 23328, .inl (fun _ => 0)))]) ++ [(q_2, .inl (ac 0, 23328, .inl (fun _ => 0)))]) ++ [(q_3, .inl (ac 0, 21, .inl (fun _ => 0)))]) H := hP
  have hD : va_D A ((([(h0, .inr (7, [.ref q_1, .ref q_2, .null, .null, .int 0, .int 0, .int 0, .int 0]))] ++ [(q_1, .inl (ac 0, 23328, .inl (fun _ => 0)))]) ++ [(q_2, .inl (ac 0, 23328, .inl (fun _ => 0)))]) ++ [(q_3, .inl (ac 0, 21, .inl (fun _ => 0)))]) := hD
  refine va_putF (D := D) (ci := 7) (v := .ref q_3) (ty := .array .int) (C := RX7) (T := TX7) (N := 8) hx hb hts in_X7_init_X7 tyX7 tyX7_ok nmX7 hown hK hP hD hS 0 rfl rfl 2 (by decide) (hts _ lk_X7_init_f18) (fun _ h9 => h9) rfl hin rfl (by decide +kernel) rfl rfl (Nat.le_of_ble_eq_true rfl) dX7_init_27 (fun H locs hP hD hS => ?_)
  have hP : va_P D vwCl ((([(h0, .inr (7, [.ref q_1, .ref q_2, .ref q_3, .null, .int 0, .int 0, .int 0, .int 0]))] ++ [(q_1, .inl (ac 0, 23328, .inl (fun _ => 0)))]) ++ [(q_2, .inl (ac 0, 23328, .inl (fun _ => 0)))]) ++ [(q_3, .inl (ac 0, 21, .inl (fun _ => 0)))]) H := hP
  have hD : va_D A ((([(h0, .inr (7, [.ref q_1, .ref q_2, .ref q_3, .null, .int 0, .int 0, .int 0, .int 0]))] ++ [(q_1, .inl (ac 0, 23328, .inl (fun _ => 0)))]) ++ [(q_2, .inl (ac 0, 23328, .inl (fun _ => 0)))]) ++ [(q_3, .inl (ac 0, 21, .inl (fun _ => 0)))]) := hD
  refine lv_aload_n hx hb dX7_init_30 rfl (lv_at hl 0 rfl) ?_
  refine lv_bipush (v := 21) hx hb dX7_init_31 (by decide) ?_
  refine k_newa (atype := .int) (t := 0) hx hb (hts _ lk_X7_init_aint) rfl rfl hK rfl hP hD hS hA (N' := 21) (by decide) (by decide) (by decide) (Nat.le_of_ble_eq_true rfl) (Nat.le_of_ble_eq_true rfl) dX7_init_33 (fun q_4 H hP hD hS => ?_)
  have hP : va_P D vwCl (((([(h0, .inr (7, [.ref q_1, .ref q_2, .ref q_3, .null, .int 0, .int 0, .int 0, .int 0]))] ++ [(q_1, .inl (ac 0, 23328, .inl (fun _ => 0)))]) ++ [(q_2, .inl (ac 0, 23328, .inl (fun _ => 0)))]) ++ [(q_3, .inl (ac 0, 21, .inl (fun _ => 0)))]) ++ [(q_4, .inl (ac 0, 21, .inl (fun _ => 0)))]) H := hP
  have hD : va_D A (((([(h0, .inr (7, [.ref q_1, .ref q_2, .ref q_3, .null, .int 0, .int 0, .int 0, .int 0]))] ++ [(q_1, .inl (ac 0, 23328, .inl (fun _ => 0)))]) ++ [(q_2, .inl (ac 0, 23328, .inl (fun _ => 0)))]) ++ [(q_3, .inl (ac 0, 21, .inl (fun _ => 0)))]) ++ [(q_4, .inl (ac 0, 21, .inl (fun _ => 0)))]) := hD
  refine va_putF (D := D) (ci := 7) (v := .ref q_4) (ty := .array .int) (C := RX7) (T := TX7) (N := 8) hx hb hts in_X7_init_X7 tyX7 tyX7_ok nmX7 hown hK hP hD hS 0 rfl rfl 3 (by decide) (hts _ lk_X7_init_f21) (fun _ h9 => h9) rfl hin rfl (by decide +kernel) rfl rfl (Nat.le_of_ble_eq_true rfl) dX7_init_35 (fun H locs hP hD hS => ?_)
  have hP : va_P D vwCl (((([(h0, .inr (7, [.ref q_1, .ref q_2, .ref q_3, .ref q_4, .int 0, .int 0, .int 0, .int 0]))] ++ [(q_1, .inl (ac 0, 23328, .inl (fun _ => 0)))]) ++ [(q_2, .inl (ac 0, 23328, .inl (fun _ => 0)))]) ++ [(q_3, .inl (ac 0, 21, .inl (fun _ => 0)))]) ++ [(q_4, .inl (ac 0, 21, .inl (fun _ => 0)))]) H := hP
  have hD : va_D A (((([(h0, .inr (7, [.ref q_1, .ref q_2, .ref q_3, .ref q_4, .int 0, .int 0, .int 0, .int 0]))] ++ [(q_1, .inl (ac 0, 23328, .inl (fun _ => 0)))]) ++ [(q_2, .inl (ac 0, 23328, .inl (fun _ => 0)))]) ++ [(q_3, .inl (ac 0, 21, .inl (fun _ => 0)))]) ++ [(q_4, .inl (ac 0, 21, .inl (fun _ => 0)))]) := hD
  refine lv_aload_n hx hb dX7_init_38 rfl (lv_at hl 0 rfl) ?_
  refine lv_ldc (v := (-100000)) hx hb hown (hts _ lk_X7_init_c24) dX7_init_39 ?_
  refine va_put (D := D) (ci := 7) (v := .int (-100000)) (ty := .int) (C := RX7) (T := TX7) (N := 8) hx hb hts in_X7_init_X7 tyX7 tyX7_ok nmX7 hown hK hP hD hS 0 rfl rfl 7 (by decide) (hts _ lk_X7_init_f25) (fun _ h9 => h9) rfl (by decide +kernel) rfl rfl (Nat.le_of_ble_eq_true rfl) dX7_init_41 (fun H locs hP hD hS => ?_)
  have hP : va_P D vwCl (((([(h0, .inr (7, [.ref q_1, .ref q_2, .ref q_3, .ref q_4, .int 0, .int 0, .int 0, .int (-100000)]))] ++ [(q_1, .inl (ac 0, 23328, .inl (fun _ => 0)))]) ++ [(q_2, .inl (ac 0, 23328, .inl (fun _ => 0)))]) ++ [(q_3, .inl (ac 0, 21, .inl (fun _ => 0)))]) ++ [(q_4, .inl (ac 0, 21, .inl (fun _ => 0)))]) H := hP
  have hD : va_D A (((([(h0, .inr (7, [.ref q_1, .ref q_2, .ref q_3, .ref q_4, .int 0, .int 0, .int 0, .int (-100000)]))] ++ [(q_1, .inl (ac 0, 23328, .inl (fun _ => 0)))]) ++ [(q_2, .inl (ac 0, 23328, .inl (fun _ => 0)))]) ++ [(q_3, .inl (ac 0, 21, .inl (fun _ => 0)))]) ++ [(q_4, .inl (ac 0, 21, .inl (fun _ => 0)))]) := hD
  refine lv_bipush (v := 18) hx hb dX7_init_44 (by decide) ?_
  refine lv_istore_n (lv' := [(1, .int 18), (0, .ref h0)]) hx hb dX7_init_46 rfl hl (by decide) rfl (fun ls hl => ?_)
  refine lv_iconst (v := 0) hx hb dX7_init_47 (by decide) ?_
  refine lv_istore_n (lv' := [(2, .int 0), (1, .int 18), (0, .ref h0)]) hx hb dX7_init_48 rfl hl (by decide) rfl (fun ls hl => ?_)
  refine lv_iload_n hx hb dX7_init_49 rfl (lv_at hl 0 rfl) ?_
  refine lv_aload_n hx hb dX7_init_50 rfl (lv_at hl 2 rfl) ?_
  refine va_get (D := D) (ci := 7) (v := .ref q_3) (C := RX7) (T := TX7) (N := 8) hx hb hts in_X7_init_X7 hown hK hP 0 rfl rfl 2 (by decide) (hts _ lk_X7_init_f18) (fun _ h9 => h9) rfl dX7_init_51 ?_
  refine va_alen (v := 21) hx hb hK hP 3 0 rfl rfl rfl dX7_init_54 ?_
  refine lv_icmp_ge (tgt := 100) hx hb dX7_init_55 (by decide) (fun h => absurd h (by decide)) (fun _ => ?_)
  refine lv_iload_n hx hb dX7_init_58 rfl (lv_at hl 0 rfl) ?_
  refine lv_iconst (v := 5) hx hb dX7_init_59 (by decide) ?_
  refine lv_irem hx hb dX7_init_60 (by decide) ?_
  refine lv_tope (z := 0) (by decide) ?_
  refine lv_iconst (v := 1) hx hb dX7_init_61 (by decide) ?_
  refine lv_iadd hx hb dX7_init_62 ?_
  refine lv_tope (z := 1) (by decide) ?_
  refine lv_istore_n (lv' := [(3, .int 1), (2, .int 0), (1, .int 18), (0, .ref h0)]) hx hb dX7_init_63 rfl hl (by decide) rfl (fun ls hl => ?_)
  refine lv_aload_n hx hb dX7_init_64 rfl (lv_at hl 3 rfl) ?_
  refine va_get (D := D) (ci := 7) (v := .ref q_3) (C := RX7) (T := TX7) (N := 8) hx hb hts in_X7_init_X7 hown hK hP 0 rfl rfl 2 (by decide) (hts _ lk_X7_init_f18) (fun _ h9 => h9) rfl dX7_init_65 ?_
  refine lv_iload_n hx hb dX7_init_68 rfl (lv_at hl 1 rfl) ?_
  refine lv_iload_n hx hb dX7_init_69 rfl (lv_at hl 1 rfl) ?_
  refine lv_bipush (v := 20) hx hb dX7_init_70 (by decide) ?_
  refine lv_icmp_ne (tgt := 80) hx hb dX7_init_72 (by decide) (fun _ => ?_) (fun h => absurd h (by decide))
  refine lv_iload_n hx hb dX7_init_80 rfl (lv_at hl 2 rfl) ?_
  refine lv_iload_n hx hb dX7_init_81 rfl (lv_at hl 0 rfl) ?_
  refine lv_imul hx hb dX7_init_82 ?_
  refine lv_tope (z := 18) (by decide) ?_
  refine va_iast hx hb hK hP hD hS 3 0 rfl rfl (show vp_in 0 21 from by unfold vp_in; decide) dX7_init_83 (fun H locs hP hD hS => ?_)
  have hP : va_P D vwCl (((([(h0, .inr (7, [.ref q_1, .ref q_2, .ref q_3, .ref q_4, .int 0, .int 0, .int 0, .int (-100000)]))] ++ [(q_1, .inl (ac 0, 23328, .inl (fun _ => 0)))]) ++ [(q_2, .inl (ac 0, 23328, .inl (fun _ => 0)))]) ++ [(q_3, .inl (ac 0, 21, .inl (upd (fun _ => 0) 0 18)))]) ++ [(q_4, .inl (ac 0, 21, .inl (fun _ => 0)))]) H := hP
  have hD : va_D A (((([(h0, .inr (7, [.ref q_1, .ref q_2, .ref q_3, .ref q_4, .int 0, .int 0, .int 0, .int (-100000)]))] ++ [(q_1, .inl (ac 0, 23328, .inl (fun _ => 0)))]) ++ [(q_2, .inl (ac 0, 23328, .inl (fun _ => 0)))]) ++ [(q_3, .inl (ac 0, 21, .inl (upd (fun _ => 0) 0 18)))]) ++ [(q_4, .inl (ac 0, 21, .inl (fun _ => 0)))]) := hD
  refine lv_iload_n hx hb dX7_init_84 rfl (lv_at hl 0 rfl) ?_
  refine lv_iconst (v := 5) hx hb dX7_init_85 (by decide) ?_
  refine lv_icmp_ne (tgt := 94) hx hb dX7_init_86 (by decide) (fun _ => ?_) (fun h => absurd h (by decide))
  refine lv_iinc (v := 1) (lv' := [(2, .int 1), (3, .int 1), (1, .int 18), (0, .ref h0)]) hx hb dX7_init_94 hl (k := 1) rfl (by decide) (by decide) rfl (fun ls hl => ?_)
  refine lv_goto (tgt := 49) hx hb dX7_init_97 (by decide) ?_
  refine lv_iload_n hx hb dX7_init_49 rfl (lv_at hl 0 rfl) ?_
  refine lv_aload_n hx hb dX7_init_50 rfl (lv_at hl 3 rfl) ?_
  refine va_get (D := D) (ci := 7) (v := .ref q_3) (C := RX7) (T := TX7) (N := 8) hx hb hts in_X7_init_X7 hown hK hP 0 rfl rfl 2 (by decide) (hts _ lk_X7_init_f18) (fun _ h9 => h9) rfl dX7_init_51 ?_
  refine va_alen (v := 21) hx hb hK hP 3 0 rfl rfl rfl dX7_init_54 ?_
  refine lv_icmp_ge (tgt := 100) hx hb dX7_init_55 (by decide) (fun h => absurd h (by decide)) (fun _ => ?_)
  refine lv_iload_n hx hb dX7_init_58 rfl (lv_at hl 0 rfl) ?_
  refine lv_iconst (v := 5) hx hb dX7_init_59 (by decide) ?_
  refine lv_irem hx hb dX7_init_60 (by decide) ?_
  refine lv_tope (z := 1) (by decide) ?_
  refine lv_iconst (v := 1) hx hb dX7_init_61 (by decide) ?_
  refine lv_iadd hx hb dX7_init_62 ?_
  refine lv_tope (z := 2) (by decide) ?_
  refine lv_istore_n (lv' := [(3, .int 2), (2, .int 1), (1, .int 18), (0, .ref h0)]) hx hb dX7_init_63 rfl hl (by decide) rfl (fun ls hl => ?_)
  refine lv_aload_n hx hb dX7_init_64 rfl (lv_at hl 3 rfl) ?_
  refine va_get (D := D) (ci := 7) (v := .ref q_3) (C := RX7) (T := TX7) (N := 8) hx hb hts in_X7_init_X7 hown hK hP 0 rfl rfl 2 (by decide) (hts _ lk_X7_init_f18) (fun _ h9 => h9) rfl dX7_init_65 ?_
  refine lv_iload_n hx hb dX7_init_68 rfl (lv_at hl 1 rfl) ?_
  refine lv_iload_n hx hb dX7_init_69 rfl (lv_at hl 1 rfl) ?_
  refine lv_bipush (v := 20) hx hb dX7_init_70 (by decide) ?_
  refine lv_icmp_ne (tgt := 80) hx hb dX7_init_72 (by decide) (fun _ => ?_) (fun h => absurd h (by decide))
  refine lv_iload_n hx hb dX7_init_80 rfl (lv_at hl 2 rfl) ?_
  refine lv_iload_n hx hb dX7_init_81 rfl (lv_at hl 0 rfl) ?_
  refine lv_imul hx hb dX7_init_82 ?_
  refine lv_tope (z := 36) (by decide) ?_
  refine va_iast hx hb hK hP hD hS 3 0 rfl rfl (show vp_in 1 21 from by unfold vp_in; decide) dX7_init_83 (fun H locs hP hD hS => ?_)
  have hP : va_P D vwCl (((([(h0, .inr (7, [.ref q_1, .ref q_2, .ref q_3, .ref q_4, .int 0, .int 0, .int 0, .int (-100000)]))] ++ [(q_1, .inl (ac 0, 23328, .inl (fun _ => 0)))]) ++ [(q_2, .inl (ac 0, 23328, .inl (fun _ => 0)))]) ++ [(q_3, .inl (ac 0, 21, .inl (upd (upd (fun _ => 0) 0 18) 1 36)))]) ++ [(q_4, .inl (ac 0, 21, .inl (fun _ => 0)))]) H := hP
  have hD : va_D A (((([(h0, .inr (7, [.ref q_1, .ref q_2, .ref q_3, .ref q_4, .int 0, .int 0, .int 0, .int (-100000)]))] ++ [(q_1, .inl (ac 0, 23328, .inl (fun _ => 0)))]) ++ [(q_2, .inl (ac 0, 23328, .inl (fun _ => 0)))]) ++ [(q_3, .inl (ac 0, 21, .inl (upd (upd (fun _ => 0) 0 18) 1 36)))]) ++ [(q_4, .inl (ac 0, 21, .inl (fun _ => 0)))]) := hD
  refine lv_iload_n hx hb dX7_init_84 rfl (lv_at hl 0 rfl) ?_
  refine lv_iconst (v := 5) hx hb dX7_init_85 (by decide) ?_
  refine lv_icmp_ne (tgt := 94) hx hb dX7_init_86 (by decide) (fun _ => ?_) (fun h => absurd h (by decide))
  refine lv_iinc (v := 2) (lv' := [(2, .int 2), (3, .int 2), (1, .int 18), (0, .ref h0)]) hx hb dX7_init_94 hl (k := 1) rfl (by decide) (by decide) rfl (fun ls hl => ?_)
  refine lv_goto (tgt := 49) hx hb dX7_init_97 (by decide) ?_
  refine lv_iload_n hx hb dX7_init_49 rfl (lv_at hl 0 rfl) ?_
  refine lv_aload_n hx hb dX7_init_50 rfl (lv_at hl 3 rfl) ?_
  refine va_get (D := D) (ci := 7) (v := .ref q_3) (C := RX7) (T := TX7) (N := 8) hx hb hts in_X7_init_X7 hown hK hP 0 rfl rfl 2 (by decide) (hts _ lk_X7_init_f18) (fun _ h9 => h9) rfl dX7_init_51 ?_
  refine va_alen (v := 21) hx hb hK hP 3 0 rfl rfl rfl dX7_init_54 ?_
  refine lv_icmp_ge (tgt := 100) hx hb dX7_init_55 (by decide) (fun h => absurd h (by decide)) (fun _ => ?_)
  refine lv_iload_n hx hb dX7_init_58 rfl (lv_at hl 0 rfl) ?_
  refine lv_iconst (v := 5) hx hb dX7_init_59 (by decide) ?_
  refine lv_irem hx hb dX7_init_60 (by decide) ?_
  refine lv_tope (z := 2) (by decide) ?_
  refine lv_iconst (v := 1) hx hb dX7_init_61 (by decide) ?_
  refine lv_iadd hx hb dX7_init_62 ?_
  refine lv_tope (z := 3) (by decide) ?_
  refine lv_istore_n (lv' := [(3, .int 3), (2, .int 2), (1, .int 18), (0, .ref h0)]) hx hb dX7_init_63 rfl hl (by decide) rfl (fun ls hl => ?_)
  refine lv_aload_n hx hb dX7_init_64 rfl (lv_at hl 3 rfl) ?_
  refine va_get (D := D) (ci := 7) (v := .ref q_3) (C := RX7) (T := TX7) (N := 8) hx hb hts in_X7_init_X7 hown hK hP 0 rfl rfl 2 (by decide) (hts _ lk_X7_init_f18) (fun _ h9 => h9) rfl dX7_init_65 ?_
  refine lv_iload_n hx hb dX7_init_68 rfl (lv_at hl 1 rfl) ?_
  refine lv_iload_n hx hb dX7_init_69 rfl (lv_at hl 1 rfl) ?_
  refine lv_bipush (v := 20) hx hb dX7_init_70 (by decide) ?_
  refine lv_icmp_ne (tgt := 80) hx hb dX7_init_72 (by decide) (fun _ => ?_) (fun h => absurd h (by decide))
  refine lv_iload_n hx hb dX7_init_80 rfl (lv_at hl 2 rfl) ?_
  refine lv_iload_n hx hb dX7_init_81 rfl (lv_at hl 0 rfl) ?_
  refine lv_imul hx hb dX7_init_82 ?_
  refine lv_tope (z := 54) (by decide) ?_
  refine va_iast hx hb hK hP hD hS 3 0 rfl rfl (show vp_in 2 21 from by unfold vp_in; decide) dX7_init_83 (fun H locs hP hD hS => ?_)
  have hP : va_P D vwCl (((([(h0, .inr (7, [.ref q_1, .ref q_2, .ref q_3, .ref q_4, .int 0, .int 0, .int 0, .int (-100000)]))] ++ [(q_1, .inl (ac 0, 23328, .inl (fun _ => 0)))]) ++ [(q_2, .inl (ac 0, 23328, .inl (fun _ => 0)))]) ++ [(q_3, .inl (ac 0, 21, .inl (upd (upd (upd (fun _ => 0) 0 18) 1 36) 2 54)))]) ++ [(q_4, .inl (ac 0, 21, .inl (fun _ => 0)))]) H := hP
  have hD : va_D A (((([(h0, .inr (7, [.ref q_1, .ref q_2, .ref q_3, .ref q_4, .int 0, .int 0, .int 0, .int (-100000)]))] ++ [(q_1, .inl (ac 0, 23328, .inl (fun _ => 0)))]) ++ [(q_2, .inl (ac 0, 23328, .inl (fun _ => 0)))]) ++ [(q_3, .inl (ac 0, 21, .inl (upd (upd (upd (fun _ => 0) 0 18) 1 36) 2 54)))]) ++ [(q_4, .inl (ac 0, 21, .inl (fun _ => 0)))]) := hD
  refine lv_iload_n hx hb dX7_init_84 rfl (lv_at hl 0 rfl) ?_
  refine lv_iconst (v := 5) hx hb dX7_init_85 (by decide) ?_
  refine lv_icmp_ne (tgt := 94) hx hb dX7_init_86 (by decide) (fun _ => ?_) (fun h => absurd h (by decide))
  refine lv_iinc (v := 3) (lv' := [(2, .int 3), (3, .int 3), (1, .int 18), (0, .ref h0)]) hx hb dX7_init_94 hl (k := 1) rfl (by decide) (by decide) rfl (fun ls hl => ?_)
  refine lv_goto (tgt := 49) hx hb dX7_init_97 (by decide) ?_
  refine lv_iload_n hx hb dX7_init_49 rfl (lv_at hl 0 rfl) ?_
  refine lv_aload_n hx hb dX7_init_50 rfl (lv_at hl 3 rfl) ?_
  refine va_get (D := D) (ci := 7) (v := .ref q_3) (C := RX7) (T := TX7) (N := 8) hx hb hts in_X7_init_X7 hown hK hP 0 rfl rfl 2 (by decide) (hts _ lk_X7_init_f18) (fun _ h9 => h9) rfl dX7_init_51 ?_
  refine va_alen (v := 21) hx hb hK hP 3 0 rfl rfl rfl dX7_init_54 ?_
  refine lv_icmp_ge (tgt := 100) hx hb dX7_init_55 (by decide) (fun h => absurd h (by decide)) (fun _ => ?_)
  refine lv_iload_n hx hb dX7_init_58 rfl (lv_at hl 0 rfl) ?_
  refine lv_iconst (v := 5) hx hb dX7_init_59 (by decide) ?_
  refine lv_irem hx hb dX7_init_60 (by decide) ?_
  refine lv_tope (z := 3) (by decide) ?_
  refine lv_iconst (v := 1) hx hb dX7_init_61 (by decide) ?_
  refine lv_iadd hx hb dX7_init_62 ?_
  refine lv_tope (z := 4) (by decide) ?_
  refine lv_istore_n (lv' := [(3, .int 4), (2, .int 3), (1, .int 18), (0, .ref h0)]) hx hb dX7_init_63 rfl hl (by decide) rfl (fun ls hl => ?_)
  refine lv_aload_n hx hb dX7_init_64 rfl (lv_at hl 3 rfl) ?_
  refine va_get (D := D) (ci := 7) (v := .ref q_3) (C := RX7) (T := TX7) (N := 8) hx hb hts in_X7_init_X7 hown hK hP 0 rfl rfl 2 (by decide) (hts _ lk_X7_init_f18) (fun _ h9 => h9) rfl dX7_init_65 ?_
  refine lv_iload_n hx hb dX7_init_68 rfl (lv_at hl 1 rfl) ?_
  refine lv_iload_n hx hb dX7_init_69 rfl (lv_at hl 1 rfl) ?_
  refine lv_bipush (v := 20) hx hb dX7_init_70 (by decide) ?_
  refine lv_icmp_ne (tgt := 80) hx hb dX7_init_72 (by decide) (fun _ => ?_) (fun h => absurd h (by decide))
  refine lv_iload_n hx hb dX7_init_80 rfl (lv_at hl 2 rfl) ?_
  refine lv_iload_n hx hb dX7_init_81 rfl (lv_at hl 0 rfl) ?_
  refine lv_imul hx hb dX7_init_82 ?_
  refine lv_tope (z := 72) (by decide) ?_
  refine va_iast hx hb hK hP hD hS 3 0 rfl rfl (show vp_in 3 21 from by unfold vp_in; decide) dX7_init_83 (fun H locs hP hD hS => ?_)
  have hP : va_P D vwCl (((([(h0, .inr (7, [.ref q_1, .ref q_2, .ref q_3, .ref q_4, .int 0, .int 0, .int 0, .int (-100000)]))] ++ [(q_1, .inl (ac 0, 23328, .inl (fun _ => 0)))]) ++ [(q_2, .inl (ac 0, 23328, .inl (fun _ => 0)))]) ++ [(q_3, .inl (ac 0, 21, .inl (upd (upd (upd (upd (fun _ => 0) 0 18) 1 36) 2 54) 3 72)))]) ++ [(q_4, .inl (ac 0, 21, .inl (fun _ => 0)))]) H := hP
  have hD : va_D A (((([(h0, .inr (7, [.ref q_1, .ref q_2, .ref q_3, .ref q_4, .int 0, .int 0, .int 0, .int (-100000)]))] ++ [(q_1, .inl (ac 0, 23328, .inl (fun _ => 0)))]) ++ [(q_2, .inl (ac 0, 23328, .inl (fun _ => 0)))]) ++ [(q_3, .inl (ac 0, 21, .inl (upd (upd (upd (upd (fun _ => 0) 0 18) 1 36) 2 54) 3 72)))]) ++ [(q_4, .inl (ac 0, 21, .inl (fun _ => 0)))]) := hD
  refine lv_iload_n hx hb dX7_init_84 rfl (lv_at hl 0 rfl) ?_
  refine lv_iconst (v := 5) hx hb dX7_init_85 (by decide) ?_
  refine lv_icmp_ne (tgt := 94) hx hb dX7_init_86 (by decide) (fun _ => ?_) (fun h => absurd h (by decide))
  refine lv_iinc (v := 4) (lv' := [(2, .int 4), (3, .int 4), (1, .int 18), (0, .ref h0)]) hx hb dX7_init_94 hl (k := 1) rfl (by decide) (by decide) rfl (fun ls hl => ?_)
  refine lv_goto (tgt := 49) hx hb dX7_init_97 (by decide) ?_
  refine lv_iload_n hx hb dX7_init_49 rfl (lv_at hl 0 rfl) ?_
  refine lv_aload_n hx hb dX7_init_50 rfl (lv_at hl 3 rfl) ?_
  refine va_get (D := D) (ci := 7) (v := .ref q_3) (C := RX7) (T := TX7) (N := 8) hx hb hts in_X7_init_X7 hown hK hP 0 rfl rfl 2 (by decide) (hts _ lk_X7_init_f18) (fun _ h9 => h9) rfl dX7_init_51 ?_
  refine va_alen (v := 21) hx hb hK hP 3 0 rfl rfl rfl dX7_init_54 ?_
  refine lv_icmp_ge (tgt := 100) hx hb dX7_init_55 (by decide) (fun h => absurd h (by decide)) (fun _ => ?_)
  refine lv_iload_n hx hb dX7_init_58 rfl (lv_at hl 0 rfl) ?_
  refine lv_iconst (v := 5) hx hb dX7_init_59 (by decide) ?_
  refine lv_irem hx hb dX7_init_60 (by decide) ?_
  refine lv_tope (z := 4) (by decide) ?_
  refine lv_iconst (v := 1) hx hb dX7_init_61 (by decide) ?_
  refine lv_iadd hx hb dX7_init_62 ?_
  refine lv_tope (z := 5) (by decide) ?_
  refine lv_istore_n (lv' := [(3, .int 5), (2, .int 4), (1, .int 18), (0, .ref h0)]) hx hb dX7_init_63 rfl hl (by decide) rfl (fun ls hl => ?_)
  refine lv_aload_n hx hb dX7_init_64 rfl (lv_at hl 3 rfl) ?_
  refine va_get (D := D) (ci := 7) (v := .ref q_3) (C := RX7) (T := TX7) (N := 8) hx hb hts in_X7_init_X7 hown hK hP 0 rfl rfl 2 (by decide) (hts _ lk_X7_init_f18) (fun _ h9 => h9) rfl dX7_init_65 ?_
  refine lv_iload_n hx hb dX7_init_68 rfl (lv_at hl 1 rfl) ?_
  refine lv_iload_n hx hb dX7_init_69 rfl (lv_at hl 1 rfl) ?_
  refine lv_bipush (v := 20) hx hb dX7_init_70 (by decide) ?_
  refine lv_icmp_ne (tgt := 80) hx hb dX7_init_72 (by decide) (fun _ => ?_) (fun h => absurd h (by decide))
  refine lv_iload_n hx hb dX7_init_80 rfl (lv_at hl 2 rfl) ?_
  refine lv_iload_n hx hb dX7_init_81 rfl (lv_at hl 0 rfl) ?_
  refine lv_imul hx hb dX7_init_82 ?_
  refine lv_tope (z := 90) (by decide) ?_
  refine va_iast hx hb hK hP hD hS 3 0 rfl rfl (show vp_in 4 21 from by unfold vp_in; decide) dX7_init_83 (fun H locs hP hD hS => ?_)
  have hP : va_P D vwCl (((([(h0, .inr (7, [.ref q_1, .ref q_2, .ref q_3, .ref q_4, .int 0, .int 0, .int 0, .int (-100000)]))] ++ [(q_1, .inl (ac 0, 23328, .inl (fun _ => 0)))]) ++ [(q_2, .inl (ac 0, 23328, .inl (fun _ => 0)))]) ++ [(q_3, .inl (ac 0, 21, .inl (upd (upd (upd (upd (upd (fun _ => 0) 0 18) 1 36) 2 54) 3 72) 4 90)))]) ++ [(q_4, .inl (ac 0, 21, .inl (fun _ => 0)))]) H := hP
  have hD : va_D A (((([(h0, .inr (7, [.ref q_1, .ref q_2, .ref q_3, .ref q_4, .int 0, .int 0, .int 0, .int (-100000)]))] ++ [(q_1, .inl (ac 0, 23328, .inl (fun _ => 0)))]) ++ [(q_2, .inl (ac 0, 23328, .inl (fun _ => 0)))]) ++ [(q_3, .inl (ac 0, 21, .inl (upd (upd (upd (upd (upd (fun _ => 0) 0 18) 1 36) 2 54) 3 72) 4 90)))]) ++ [(q_4, .inl (ac 0, 21, .inl (fun _ => 0)))]) := hD
  refine lv_iload_n hx hb dX7_init_84 rfl (lv_at hl 0 rfl) ?_
  refine lv_iconst (v := 5) hx hb dX7_init_85 (by decide) ?_
  refine lv_icmp_ne (tgt := 94) hx hb dX7_init_86 (by decide) (fun h => absurd (by decide) h) (fun _ => ?_)
  refine lv_iload_n hx hb dX7_init_89 rfl (lv_at hl 2 rfl) ?_
  refine lv_bipush (v := 6) hx hb dX7_init_90 (by decide) ?_
  refine lv_imul hx hb dX7_init_92 ?_
  refine lv_tope (z := 108) (by decide) ?_
  refine lv_istore_n (lv' := [(1, .int 108), (3, .int 5), (2, .int 4), (0, .ref h0)]) hx hb dX7_init_93 rfl hl (by decide) rfl (fun ls hl => ?_)
  refine lv_iinc (v := 5) (lv' := [(2, .int 5), (1, .int 108), (3, .int 5), (0, .ref h0)]) hx hb dX7_init_94 hl (k := 2) rfl (by decide) (by decide) rfl (fun ls hl => ?_)
  refine lv_goto (tgt := 49) hx hb dX7_init_97 (by decide) ?_
  refine lv_iload_n hx hb dX7_init_49 rfl (lv_at hl 0 rfl) ?_
  refine lv_aload_n hx hb dX7_init_50 rfl (lv_at hl 3 rfl) ?_
  refine va_get (D := D) (ci := 7) (v := .ref q_3) (C := RX7) (T := TX7) (N := 8) hx hb hts in_X7_init_X7 hown hK hP 0 rfl rfl 2 (by decide) (hts _ lk_X7_init_f18) (fun _ h9 => h9) rfl dX7_init_51 ?_
  refine va_alen (v := 21) hx hb hK hP 3 0 rfl rfl rfl dX7_init_54 ?_
  refine lv_icmp_ge (tgt := 100) hx hb dX7_init_55 (by decide) (fun h => absurd h (by decide)) (fun _ => ?_)
  refine lv_iload_n hx hb dX7_init_58 rfl (lv_at hl 0 rfl) ?_
  refine lv_iconst (v := 5) hx hb dX7_init_59 (by decide) ?_
  refine lv_irem hx hb dX7_init_60 (by decide) ?_
  refine lv_tope (z := 0) (by decide) ?_
  refine lv_iconst (v := 1) hx hb dX7_init_61 (by decide) ?_
  refine lv_iadd hx hb dX7_init_62 ?_
  refine lv_tope (z := 1) (by decide) ?_
  refine lv_istore_n (lv' := [(3, .int 1), (2, .int 5), (1, .int 108), (0, .ref h0)]) hx hb dX7_init_63 rfl hl (by decide) rfl (fun ls hl => ?_)
  refine lv_aload_n hx hb dX7_init_64 rfl (lv_at hl 3 rfl) ?_
  refine va_get (D := D) (ci := 7) (v := .ref q_3) (C := RX7) (T := TX7) (N := 8) hx hb hts in_X7_init_X7 hown hK hP 0 rfl rfl 2 (by decide) (hts _ lk_X7_init_f18) (fun _ h9 => h9) rfl dX7_init_65 ?_
  refine lv_iload_n hx hb dX7_init_68 rfl (lv_at hl 1 rfl) ?_
  refine lv_iload_n hx hb dX7_init_69 rfl (lv_at hl 1 rfl) ?_
  refine lv_bipush (v := 20) hx hb dX7_init_70 (by decide) ?_
  refine lv_icmp_ne (tgt := 80) hx hb dX7_init_72 (by decide) (fun _ => ?_) (fun h => absurd h (by decide))
  refine lv_iload_n hx hb dX7_init_80 rfl (lv_at hl 2 rfl) ?_
  refine lv_iload_n hx hb dX7_init_81 rfl (lv_at hl 0 rfl) ?_
  refine lv_imul hx hb dX7_init_82 ?_
  refine lv_tope (z := 108) (by decide) ?_
  refine va_iast hx hb hK hP hD hS 3 0 rfl rfl (show vp_in 5 21 from by unfold vp_in; decide) dX7_init_83 (fun H locs hP hD hS => ?_)
  have hP : va_P D vwCl (((([(h0, .inr (7, [.ref q_1, .ref q_2, .ref q_3, .ref q_4, .int 0, .int 0, .int 0, .int (-100000)]))] ++ [(q_1, .inl (ac 0, 23328, .inl (fun _ => 0)))]) ++ [(q_2, .inl (ac 0, 23328, .inl (fun _ => 0)))]) ++ [(q_3, .inl (ac 0, 21, .inl (upd (upd (upd (upd (upd (upd (fun _ => 0) 0 18) 1 36) 2 54) 3 72) 4 90) 5 108)))]) ++ [(q_4, .inl (ac 0, 21, .inl (fun _ => 0)))]) H := hP
  have hD : va_D A (((([(h0, .inr (7, [.ref q_1, .ref q_2, .ref q_3, .ref q_4, .int 0, .int 0, .int 0, .int (-100000)]))] ++ [(q_1, .inl (ac 0, 23328, .inl (fun _ => 0)))]) ++ [(q_2, .inl (ac 0, 23328, .inl (fun _ => 0)))]) ++ [(q_3, .inl (ac 0, 21, .inl (upd (upd (upd (upd (upd (upd (fun _ => 0) 0 18) 1 36) 2 54) 3 72) 4 90) 5 108)))]) ++ [(q_4, .inl (ac 0, 21, .inl (fun _ => 0)))]) := hD
  refine lv_iload_n hx hb dX7_init_84 rfl (lv_at hl 0 rfl) ?_
  refine lv_iconst (v := 5) hx hb dX7_init_85 (by decide) ?_
  refine lv_icmp_ne (tgt := 94) hx hb dX7_init_86 (by decide) (fun _ => ?_) (fun h => absurd h (by decide))
  refine lv_iinc (v := 6) (lv' := [(2, .int 6), (3, .int 1), (1, .int 108), (0, .ref h0)]) hx hb dX7_init_94 hl (k := 1) rfl (by decide) (by decide) rfl (fun ls hl => ?_)
  refine lv_goto (tgt := 49) hx hb dX7_init_97 (by decide) ?_
  refine lv_iload_n hx hb dX7_init_49 rfl (lv_at hl 0 rfl) ?_
  refine lv_aload_n hx hb dX7_init_50 rfl (lv_at hl 3 rfl) ?_
  refine va_get (D := D) (ci := 7) (v := .ref q_3) (C := RX7) (T := TX7) (N := 8) hx hb hts in_X7_init_X7 hown hK hP 0 rfl rfl 2 (by decide) (hts _ lk_X7_init_f18) (fun _ h9 => h9) rfl dX7_init_51 ?_
  refine va_alen (v := 21) hx hb hK hP 3 0 rfl rfl rfl dX7_init_54 ?_
  refine lv_icmp_ge (tgt := 100) hx hb dX7_init_55 (by decide) (fun h => absurd h (by decide)) (fun _ => ?_)
  refine lv_iload_n hx hb dX7_init_58 rfl (lv_at hl 0 rfl) ?_
  refine lv_iconst (v := 5) hx hb dX7_init_59 (by decide) ?_
  refine lv_irem hx hb dX7_init_60 (by decide) ?_
  refine lv_tope (z := 1) (by decide) ?_
  refine lv_iconst (v := 1) hx hb dX7_init_61 (by decide) ?_
  refine lv_iadd hx hb dX7_init_62 ?_
  refine lv_tope (z := 2) (by decide) ?_
  refine lv_istore_n (lv' := [(3, .int 2), (2, .int 6), (1, .int 108), (0, .ref h0)]) hx hb dX7_init_63 rfl hl (by decide) rfl (fun ls hl => ?_)
  refine lv_aload_n hx hb dX7_init_64 rfl (lv_at hl 3 rfl) ?_
  refine va_get (D := D) (ci := 7) (v := .ref q_3) (C := RX7) (T := TX7) (N := 8) hx hb hts in_X7_init_X7 hown hK hP 0 rfl rfl 2 (by decide) (hts _ lk_X7_init_f18) (fun _ h9 => h9) rfl dX7_init_65 ?_
  refine lv_iload_n hx hb dX7_init_68 rfl (lv_at hl 1 rfl) ?_
  refine lv_iload_n hx hb dX7_init_69 rfl (lv_at hl 1 rfl) ?_
  refine lv_bipush (v := 20) hx hb dX7_init_70 (by decide) ?_
  refine lv_icmp_ne (tgt := 80) hx hb dX7_init_72 (by decide) (fun _ => ?_) (fun h => absurd h (by decide))
  refine lv_iload_n hx hb dX7_init_80 rfl (lv_at hl 2 rfl) ?_
  refine lv_iload_n hx hb dX7_init_81 rfl (lv_at hl 0 rfl) ?_
  refine lv_imul hx hb dX7_init_82 ?_
  refine lv_tope (z := 216) (by decide) ?_
  refine va_iast hx hb hK hP hD hS 3 0 rfl rfl (show vp_in 6 21 from by unfold vp_in; decide) dX7_init_83 (fun H locs hP hD hS => ?_)
  have hP : va_P D vwCl (((([(h0, .inr (7, [.ref q_1, .ref q_2, .ref q_3, .ref q_4, .int 0, .int 0, .int 0, .int (-100000)]))] ++ [(q_1, .inl (ac 0, 23328, .inl (fun _ => 0)))]) ++ [(q_2, .inl (ac 0, 23328, .inl (fun _ => 0)))]) ++ [(q_3, .inl (ac 0, 21, .inl (upd (upd (upd (upd (upd (upd (upd (fun _ => 0) 0 18) 1 36) 2 54) 3 72) 4 90) 5 108) 6 216)))]) ++ [(q_4, .inl (ac 0, 21, .inl (fun _ => 0)))]) H := hP
  have hD : va_D A (((([(h0, .inr (7, [.ref q_1, .ref q_2, .ref q_3, .ref q_4, .int 0, .int 0, .int 0, .int (-100000)]))] ++ [(q_1, .inl (ac 0, 23328, .inl (fun _ => 0)))]) ++ [(q_2, .inl (ac 0, 23328, .inl (fun _ => 0)))]) ++ [(q_3, .inl (ac 0, 21, .inl (upd (upd (upd (upd (upd (upd (upd (fun _ => 0) 0 18) 1 36) 2 54) 3 72) 4 90) 5 108) 6 216)))]) ++ [(q_4, .inl (ac 0, 21, .inl (fun _ => 0)))]) := hD
  refine lv_iload_n hx hb dX7_init_84 rfl (lv_at hl 0 rfl) ?_
  refine lv_iconst (v := 5) hx hb dX7_init_85 (by decide) ?_
  refine lv_icmp_ne (tgt := 94) hx hb dX7_init_86 (by decide) (fun _ => ?_) (fun h => absurd h (by decide))
  refine lv_iinc (v := 7) (lv' := [(2, .int 7), (3, .int 2), (1, .int 108), (0, .ref h0)]) hx hb dX7_init_94 hl (k := 1) rfl (by decide) (by decide) rfl (fun ls hl => ?_)
  refine lv_goto (tgt := 49) hx hb dX7_init_97 (by decide) ?_
  refine lv_iload_n hx hb dX7_init_49 rfl (lv_at hl 0 rfl) ?_
  refine lv_aload_n hx hb dX7_init_50 rfl (lv_at hl 3 rfl) ?_
  refine va_get (D := D) (ci := 7) (v := .ref q_3) (C := RX7) (T := TX7) (N := 8) hx hb hts in_X7_init_X7 hown hK hP 0 rfl rfl 2 (by decide) (hts _ lk_X7_init_f18) (fun _ h9 => h9) rfl dX7_init_51 ?_
  refine va_alen (v := 21) hx hb hK hP 3 0 rfl rfl rfl dX7_init_54 ?_
  refine lv_icmp_ge (tgt := 100) hx hb dX7_init_55 (by decide) (fun h => absurd h (by decide)) (fun _ => ?_)
  refine lv_iload_n hx hb dX7_init_58 rfl (lv_at hl 0 rfl) ?_
  refine lv_iconst (v := 5) hx hb dX7_init_59 (by decide) ?_
  refine lv_irem hx hb dX7_init_60 (by decide) ?_
  refine lv_tope (z := 2) (by decide) ?_
  refine lv_iconst (v := 1) hx hb dX7_init_61 (by decide) ?_
  refine lv_iadd hx hb dX7_init_62 ?_
  refine lv_tope (z := 3) (by decide) ?_
  refine lv_istore_n (lv' := [(3, .int 3), (2, .int 7), (1, .int 108), (0, .ref h0)]) hx hb dX7_init_63 rfl hl (by decide) rfl (fun ls hl => ?_)
  refine lv_aload_n hx hb dX7_init_64 rfl (lv_at hl 3 rfl) ?_
  refine va_get (D := D) (ci := 7) (v := .ref q_3) (C := RX7) (T := TX7) (N := 8) hx hb hts in_X7_init_X7 hown hK hP 0 rfl rfl 2 (by decide) (hts _ lk_X7_init_f18) (fun _ h9 => h9) rfl dX7_init_65 ?_
  refine lv_iload_n hx hb dX7_init_68 rfl (lv_at hl 1 rfl) ?_
  refine lv_iload_n hx hb dX7_init_69 rfl (lv_at hl 1 rfl) ?_
  refine lv_bipush (v := 20) hx hb dX7_init_70 (by decide) ?_
  refine lv_icmp_ne (tgt := 80) hx hb dX7_init_72 (by decide) (fun _ => ?_) (fun h => absurd h (by decide))
  refine lv_iload_n hx hb dX7_init_80 rfl (lv_at hl 2 rfl) ?_
  refine lv_iload_n hx hb dX7_init_81 rfl (lv_at hl 0 rfl) ?_
  refine lv_imul hx hb dX7_init_82 ?_
  refine lv_tope (z := 324) (by decide) ?_
  refine va_iast hx hb hK hP hD hS 3 0 rfl rfl (show vp_in 7 21 from by unfold vp_in; decide) dX7_init_83 (fun H locs hP hD hS => ?_)
  have hP : va_P D vwCl (((([(h0, .inr (7, [.ref q_1, .ref q_2, .ref q_3, .ref q_4, .int 0, .int 0, .int 0, .int (-100000)]))] ++ [(q_1, .inl (ac 0, 23328, .inl (fun _ => 0)))]) ++ [(q_2, .inl (ac 0, 23328, .inl (fun _ => 0)))]) ++ [(q_3, .inl (ac 0, 21, .inl (upd (upd (upd (upd (upd (upd (upd (upd (fun _ => 0) 0 18) 1 36) 2 54) 3 72) 4 90) 5 108) 6 216) 7 324)))]) ++ [(q_4, .inl (ac 0, 21, .inl (fun _ => 0)))]) H := hP
  have hD : va_D A (((([(h0, .inr (7, [.ref q_1, .ref q_2, .ref q_3, .ref q_4, .int 0, .int 0, .int 0, .int (-100000)]))] ++ [(q_1, .inl (ac 0, 23328, .inl (fun _ => 0)))]) ++ [(q_2, .inl (ac 0, 23328, .inl (fun _ => 0)))]) ++ [(q_3, .inl (ac 0, 21, .inl (upd (upd (upd (upd (upd (upd (upd (upd (fun _ => 0) 0 18) 1 36) 2 54) 3 72) 4 90) 5 108) 6 216) 7 324)))]) ++ [(q_4, .inl (ac 0, 21, .inl (fun _ => 0)))]) := hD
  refine lv_iload_n hx hb dX7_init_84 rfl (lv_at hl 0 rfl) ?_
  refine lv_iconst (v := 5) hx hb dX7_init_85 (by decide) ?_
  refine lv_icmp_ne (tgt := 94) hx hb dX7_init_86 (by decide) (fun _ => ?_) (fun h => absurd h (by decide))
  refine lv_iinc (v := 8) (lv' := [(2, .int 8), (3, .int 3), (1, .int 108), (0, .ref h0)]) hx hb dX7_init_94 hl (k := 1) rfl (by decide) (by decide) rfl (fun ls hl => ?_)
  refine lv_goto (tgt := 49) hx hb dX7_init_97 (by decide) ?_
  refine lv_iload_n hx hb dX7_init_49 rfl (lv_at hl 0 rfl) ?_
  refine lv_aload_n hx hb dX7_init_50 rfl (lv_at hl 3 rfl) ?_
  refine va_get (D := D) (ci := 7) (v := .ref q_3) (C := RX7) (T := TX7) (N := 8) hx hb hts in_X7_init_X7 hown hK hP 0 rfl rfl 2 (by decide) (hts _ lk_X7_init_f18) (fun _ h9 => h9) rfl dX7_init_51 ?_
  refine va_alen (v := 21) hx hb hK hP 3 0 rfl rfl rfl dX7_init_54 ?_
  refine lv_icmp_ge (tgt := 100) hx hb dX7_init_55 (by decide) (fun h => absurd h (by decide)) (fun _ => ?_)
  refine lv_iload_n hx hb dX7_init_58 rfl (lv_at hl 0 rfl) ?_
  refine lv_iconst (v := 5) hx hb dX7_init_59 (by decide) ?_
  refine lv_irem hx hb dX7_init_60 (by decide) ?_
  refine lv_tope (z := 3) (by decide) ?_
  refine lv_iconst (v := 1) hx hb dX7_init_61 (by decide) ?_
  refine lv_iadd hx hb dX7_init_62 ?_
  refine lv_tope (z := 4) (by decide) ?_
  refine lv_istore_n (lv' := [(3, .int 4), (2, .int 8), (1, .int 108), (0, .ref h0)]) hx hb dX7_init_63 rfl hl (by decide) rfl (fun ls hl => ?_)
  refine lv_aload_n hx hb dX7_init_64 rfl (lv_at hl 3 rfl) ?_
  refine va_get (D := D) (ci := 7) (v := .ref q_3) (C := RX7) (T := TX7) (N := 8) hx hb hts in_X7_init_X7 hown hK hP 0 rfl rfl 2 (by decide) (hts _ lk_X7_init_f18) (fun _ h9 => h9) rfl dX7_init_65 ?_
  refine lv_iload_n hx hb dX7_init_68 rfl (lv_at hl 1 rfl) ?_
  refine lv_iload_n hx hb dX7_init_69 rfl (lv_at hl 1 rfl) ?_
  refine lv_bipush (v := 20) hx hb dX7_init_70 (by decide) ?_
  refine lv_icmp_ne (tgt := 80) hx hb dX7_init_72 (by decide) (fun _ => ?_) (fun h => absurd h (by decide))
  refine lv_iload_n hx hb dX7_init_80 rfl (lv_at hl 2 rfl) ?_
  refine lv_iload_n hx hb dX7_init_81 rfl (lv_at hl 0 rfl) ?_
  refine lv_imul hx hb dX7_init_82 ?_
  refine lv_tope (z := 432) (by decide) ?_
  refine va_iast hx hb hK hP hD hS 3 0 rfl rfl (show vp_in 8 21 from by unfold vp_in; decide) dX7_init_83 (fun H locs hP hD hS => ?_)
  have hP : va_P D vwCl (((([(h0, .inr (7, [.ref q_1, .ref q_2, .ref q_3, .ref q_4, .int 0, .int 0, .int 0, .int (-100000)]))] ++ [(q_1, .inl (ac 0, 23328, .inl (fun _ => 0)))]) ++ [(q_2, .inl (ac 0, 23328, .inl (fun _ => 0)))]) ++ [(q_3, .inl (ac 0, 21, .inl (upd (upd (upd (upd (upd (upd (upd (upd (upd (fun _ => 0) 0 18) 1 36) 2 54) 3 72) 4 90) 5 108) 6 216) 7 324) 8 432)))]) ++ [(q_4, .inl (ac 0, 21, .inl (fun _ => 0)))]) H := hP
  have hD : va_D A (((([(h0, .inr (7, [.ref q_1, .ref q_2, .ref q_3, .ref q_4, .int 0, .int 0, .int 0, .int (-100000)]))] ++ [(q_1, .inl (ac 0, 23328, .inl (fun _ => 0)))]) ++ [(q_2, .inl (ac 0, 23328, .inl (fun _ => 0)))]) ++ [(q_3, .inl (ac 0, 21, .inl (upd (upd (upd (upd (upd (upd (upd (upd (upd (fun _ => 0) 0 18) 1 36) 2 54) 3 72) 4 90) 5 108) 6 216) 7 324) 8 432)))]) ++ [(q_4, .inl (ac 0, 21, .inl (fun _ => 0)))]) := hD
  refine lv_iload_n hx hb dX7_init_84 rfl (lv_at hl 0 rfl) ?_
  refine lv_iconst (v := 5) hx hb dX7_init_85 (by decide) ?_
  refine lv_icmp_ne (tgt := 94) hx hb dX7_init_86 (by decide) (fun _ => ?_) (fun h => absurd h (by decide))
  refine lv_iinc (v := 9) (lv' := [(2, .int 9), (3, .int 4), (1, .int 108), (0, .ref h0)]) hx hb dX7_init_94 hl (k := 1) rfl (by decide) (by decide) rfl (fun ls hl => ?_)
  refine lv_goto (tgt := 49) hx hb dX7_init_97 (by decide) ?_
  refine lv_iload_n hx hb dX7_init_49 rfl (lv_at hl 0 rfl) ?_
  refine lv_aload_n hx hb dX7_init_50 rfl (lv_at hl 3 rfl) ?_
  refine va_get (D := D) (ci := 7) (v := .ref q_3) (C := RX7) (T := TX7) (N := 8) hx hb hts in_X7_init_X7 hown hK hP 0 rfl rfl 2 (by decide) (hts _ lk_X7_init_f18) (fun _ h9 => h9) rfl dX7_init_51 ?_
  refine va_alen (v := 21) hx hb hK hP 3 0 rfl rfl rfl dX7_init_54 ?_
  refine lv_icmp_ge (tgt := 100) hx hb dX7_init_55 (by decide) (fun h => absurd h (by decide)) (fun _ => ?_)
  refine lv_iload_n hx hb dX7_init_58 rfl (lv_at hl 0 rfl) ?_
  refine lv_iconst (v := 5) hx hb dX7_init_59 (by decide) ?_
  refine lv_irem hx hb dX7_init_60 (by decide) ?_
  refine lv_tope (z := 4) (by decide) ?_
  refine lv_iconst (v := 1) hx hb dX7_init_61 (by decide) ?_
  refine lv_iadd hx hb dX7_init_62 ?_
  refine lv_tope (z := 5) (by decide) ?_
  refine lv_istore_n (lv' := [(3, .int 5), (2, .int 9), (1, .int 108), (0, .ref h0)]) hx hb dX7_init_63 rfl hl (by decide) rfl (fun ls hl => ?_)
  refine lv_aload_n hx hb dX7_init_64 rfl (lv_at hl 3 rfl) ?_
  refine va_get (D := D) (ci := 7) (v := .ref q_3) (C := RX7) (T := TX7) (N := 8) hx hb hts in_X7_init_X7 hown hK hP 0 rfl rfl 2 (by decide) (hts _ lk_X7_init_f18) (fun _ h9 => h9) rfl dX7_init_65 ?_
  refine lv_iload_n hx hb dX7_init_68 rfl (lv_at hl 1 rfl) ?_
  refine lv_iload_n hx hb dX7_init_69 rfl (lv_at hl 1 rfl) ?_
  refine lv_bipush (v := 20) hx hb dX7_init_70 (by decide) ?_
  refine lv_icmp_ne (tgt := 80) hx hb dX7_init_72 (by decide) (fun _ => ?_) (fun h => absurd h (by decide))
  refine lv_iload_n hx hb dX7_init_80 rfl (lv_at hl 2 rfl) ?_
  refine lv_iload_n hx hb dX7_init_81 rfl (lv_at hl 0 rfl) ?_
  refine lv_imul hx hb dX7_init_82 ?_
  refine lv_tope (z := 540) (by decide) ?_
  refine va_iast hx hb hK hP hD hS 3 0 rfl rfl (show vp_in 9 21 from by unfold vp_in; decide) dX7_init_83 (fun H locs hP hD hS => ?_)
  have hP : va_P D vwCl (((([(h0, .inr (7, [.ref q_1, .ref q_2, .ref q_3, .ref q_4, .int 0, .int 0, .int 0, .int (-100000)]))] ++ [(q_1, .inl (ac 0, 23328, .inl (fun _ => 0)))]) ++ [(q_2, .inl (ac 0, 23328, .inl (fun _ => 0)))]) ++ [(q_3, .inl (ac 0, 21, .inl (upd (upd (upd (upd (upd (upd (upd (upd (upd (upd (fun _ => 0) 0 18) 1 36) 2 54) 3 72) 4 90) 5 108) 6 216) 7 324) 8 432) 9 540)))]) ++ [(q_4, .inl (ac 0, 21, .inl (fun _ => 0)))]) H := hP
  have hD : va_D A (((([(h0, .inr (7, [.ref q_1, .ref q_2, .ref q_3, .ref q_4, .int 0, .int 0, .int 0, .int (-100000)]))] ++ [(q_1, .inl (ac 0, 23328, .inl (fun _ => 0)))]) ++ [(q_2, .inl (ac 0, 23328, .inl (fun _ => 0)))]) ++ [(q_3, .inl (ac 0, 21, .inl (upd (upd (upd (upd (upd (upd (upd (upd (upd (upd (fun _ => 0) 0 18) 1 36) 2 54) 3 72) 4 90) 5 108) 6 216) 7 324) 8 432) 9 540)))]) ++ [(q_4, .inl (ac 0, 21, .inl (fun _ => 0)))]) := hD
  refine lv_iload_n hx hb dX7_init_84 rfl (lv_at hl 0 rfl) ?_
  refine lv_iconst (v := 5) hx hb dX7_init_85 (by decide) ?_
  refine lv_icmp_ne (tgt := 94) hx hb dX7_init_86 (by decide) (fun h => absurd (by decide) h) (fun _ => ?_)
  refine lv_iload_n hx hb dX7_init_89 rfl (lv_at hl 2 rfl) ?_
  refine lv_bipush (v := 6) hx hb dX7_init_90 (by decide) ?_
  refine lv_imul hx hb dX7_init_92 ?_
  refine lv_tope (z := 648) (by decide) ?_
  refine lv_istore_n (lv' := [(1, .int 648), (3, .int 5), (2, .int 9), (0, .ref h0)]) hx hb dX7_init_93 rfl hl (by decide) rfl (fun ls hl => ?_)
  refine lv_iinc (v := 10) (lv' := [(2, .int 10), (1, .int 648), (3, .int 5), (0, .ref h0)]) hx hb dX7_init_94 hl (k := 2) rfl (by decide) (by decide) rfl (fun ls hl => ?_)
  refine lv_goto (tgt := 49) hx hb dX7_init_97 (by decide) ?_
  refine lv_iload_n hx hb dX7_init_49 rfl (lv_at hl 0 rfl) ?_
  refine lv_aload_n hx hb dX7_init_50 rfl (lv_at hl 3 rfl) ?_
  refine va_get (D := D) (ci := 7) (v := .ref q_3) (C := RX7) (T := TX7) (N := 8) hx hb hts in_X7_init_X7 hown hK hP 0 rfl rfl 2 (by decide) (hts _ lk_X7_init_f18) (fun _ h9 => h9) rfl dX7_init_51 ?_
  refine va_alen (v := 21) hx hb hK hP 3 0 rfl rfl rfl dX7_init_54 ?_
  refine lv_icmp_ge (tgt := 100) hx hb dX7_init_55 (by decide) (fun h => absurd h (by decide)) (fun _ => ?_)
  refine lv_iload_n hx hb dX7_init_58 rfl (lv_at hl 0 rfl) ?_
  refine lv_iconst (v := 5) hx hb dX7_init_59 (by decide) ?_
  refine lv_irem hx hb dX7_init_60 (by decide) ?_
  refine lv_tope (z := 0) (by decide) ?_
  refine lv_iconst (v := 1) hx hb dX7_init_61 (by decide) ?_
  refine lv_iadd hx hb dX7_init_62 ?_
  refine lv_tope (z := 1) (by decide) ?_
  refine lv_istore_n (lv' := [(3, .int 1), (2, .int 10), (1, .int 648), (0, .ref h0)]) hx hb dX7_init_63 rfl hl (by decide) rfl (fun ls hl => ?_)
  refine lv_aload_n hx hb dX7_init_64 rfl (lv_at hl 3 rfl) ?_
  refine va_get (D := D) (ci := 7) (v := .ref q_3) (C := RX7) (T := TX7) (N := 8) hx hb hts in_X7_init_X7 hown hK hP 0 rfl rfl 2 (by decide) (hts _ lk_X7_init_f18) (fun _ h9 => h9) rfl dX7_init_65 ?_
  refine lv_iload_n hx hb dX7_init_68 rfl (lv_at hl 1 rfl) ?_
  refine lv_iload_n hx hb dX7_init_69 rfl (lv_at hl 1 rfl) ?_
  refine lv_bipush (v := 20) hx hb dX7_init_70 (by decide) ?_
  refine lv_icmp_ne (tgt := 80) hx hb dX7_init_72 (by decide) (fun _ => ?_) (fun h => absurd h (by decide))
  refine lv_iload_n hx hb dX7_init_80 rfl (lv_at hl 2 rfl) ?_
  refine lv_iload_n hx hb dX7_init_81 rfl (lv_at hl 0 rfl) ?_
  refine lv_imul hx hb dX7_init_82 ?_
  refine lv_tope (z := 648) (by decide) ?_
  refine va_iast hx hb hK hP hD hS 3 0 rfl rfl (show vp_in 10 21 from by unfold vp_in; decide) dX7_init_83 (fun H locs hP hD hS => ?_)
  have hP : va_P D vwCl (((([(h0, .inr (7, [.ref q_1, .ref q_2, .ref q_3, .ref q_4, .int 0, .int 0, .int 0, .int (-100000)]))] ++ [(q_1, .inl (ac 0, 23328, .inl (fun _ => 0)))]) ++ [(q_2, .inl (ac 0, 23328, .inl (fun _ => 0)))]) ++ [(q_3, .inl (ac 0, 21, .inl (upd (upd (upd (upd (upd (upd (upd (upd (upd (upd (upd (fun _ => 0) 0 18) 1 36) 2 54) 3 72) 4 90) 5 108) 6 216) 7 324) 8 432) 9 540) 10 648)))]) ++ [(q_4, .inl (ac 0, 21, .inl (fun _ => 0)))]) H := hP
  have hD : va_D A (((([(h0, .inr (7, [.ref q_1, .ref q_2, .ref q_3, .ref q_4, .int 0, .int 0, .int 0, .int (-100000)]))] ++ [(q_1, .inl (ac 0, 23328, .inl (fun _ => 0)))]) ++ [(q_2, .inl (ac 0, 23328, .inl (fun _ => 0)))]) ++ [(q_3, .inl (ac 0, 21, .inl (upd (upd (upd (upd (upd (upd (upd (upd (upd (upd (upd (fun _ => 0) 0 18) 1 36) 2 54) 3 72) 4 90) 5 108) 6 216) 7 324) 8 432) 9 540) 10 648)))]) ++ [(q_4, .inl (ac 0, 21, .inl (fun _ => 0)))]) := hD
  refine lv_iload_n hx hb dX7_init_84 rfl (lv_at hl 0 rfl) ?_
  refine lv_iconst (v := 5) hx hb dX7_init_85 (by decide) ?_
  refine lv_icmp_ne (tgt := 94) hx hb dX7_init_86 (by decide) (fun _ => ?_) (fun h => absurd h (by decide))
  refine lv_iinc (v := 11) (lv' := [(2, .int 11), (3, .int 1), (1, .int 648), (0, .ref h0)]) hx hb dX7_init_94 hl (k := 1) rfl (by decide) (by decide) rfl (fun ls hl => ?_)
  refine lv_goto (tgt := 49) hx hb dX7_init_97 (by decide) ?_
  refine lv_iload_n hx hb dX7_init_49 rfl (lv_at hl 0 rfl) ?_
  refine lv_aload_n hx hb dX7_init_50 rfl (lv_at hl 3 rfl) ?_
  refine va_get (D := D) (ci := 7) (v := .ref q_3) (C := RX7) (T := TX7) (N := 8) hx hb hts in_X7_init_X7 hown hK hP 0 rfl rfl 2 (by decide) (hts _ lk_X7_init_f18) (fun _ h9 => h9) rfl dX7_init_51 ?_
  refine va_alen (v := 21) hx hb hK hP 3 0 rfl rfl rfl dX7_init_54 ?_
  refine lv_icmp_ge (tgt := 100) hx hb dX7_init_55 (by decide) (fun h => absurd h (by decide)) (fun _ => ?_)
  refine lv_iload_n hx hb dX7_init_58 rfl (lv_at hl 0 rfl) ?_
  refine lv_iconst (v := 5) hx hb dX7_init_59 (by decide) ?_
  refine lv_irem hx hb dX7_init_60 (by decide) ?_
  refine lv_tope (z := 1) (by decide) ?_
  refine lv_iconst (v := 1) hx hb dX7_init_61 (by decide) ?_
  refine lv_iadd hx hb dX7_init_62 ?_
  refine lv_tope (z := 2) (by decide) ?_
  refine lv_istore_n (lv' := [(3, .int 2), (2, .int 11), (1, .int 648), (0, .ref h0)]) hx hb dX7_init_63 rfl hl (by decide) rfl (fun ls hl => ?_)
  refine lv_aload_n hx hb dX7_init_64 rfl (lv_at hl 3 rfl) ?_
  refine va_get (D := D) (ci := 7) (v := .ref q_3) (C := RX7) (T := TX7) (N := 8) hx hb hts in_X7_init_X7 hown hK hP 0 rfl rfl 2 (by decide) (hts _ lk_X7_init_f18) (fun _ h9 => h9) rfl dX7_init_65 ?_
  refine lv_iload_n hx hb dX7_init_68 rfl (lv_at hl 1 rfl) ?_
  refine lv_iload_n hx hb dX7_init_69 rfl (lv_at hl 1 rfl) ?_
  refine lv_bipush (v := 20) hx hb dX7_init_70 (by decide) ?_
  refine lv_icmp_ne (tgt := 80) hx hb dX7_init_72 (by decide) (fun _ => ?_) (fun h => absurd h (by decide))
  refine lv_iload_n hx hb dX7_init_80 rfl (lv_at hl 2 rfl) ?_
  refine lv_iload_n hx hb dX7_init_81 rfl (lv_at hl 0 rfl) ?_
  refine lv_imul hx hb dX7_init_82 ?_
  refine lv_tope (z := 1296) (by decide) ?_
  refine va_iast hx hb hK hP hD hS 3 0 rfl rfl (show vp_in 11 21 from by unfold vp_in; decide) dX7_init_83 (fun H locs hP hD hS => ?_)
  have hP : va_P D vwCl (((([(h0, .inr (7, [.ref q_1, .ref q_2, .ref q_3, .ref q_4, .int 0, .int 0, .int 0, .int (-100000)]))] ++ [(q_1, .inl (ac 0, 23328, .inl (fun _ => 0)))]) ++ [(q_2, .inl (ac 0, 23328, .inl (fun _ => 0)))]) ++ [(q_3, .inl (ac 0, 21, .inl (upd (upd (upd (upd (upd (upd (upd (upd (upd (upd (upd (upd (fun _ => 0) 0 18) 1 36) 2 54) 3 72) 4 90) 5 108) 6 216) 7 324) 8 432) 9 540) 10 648) 11 1296)))]) ++ [(q_4, .inl (ac 0, 21, .inl (fun _ => 0)))]) H := hP
  have hD : va_D A (((([(h0, .inr (7, [.ref q_1, .ref q_2, .ref q_3, .ref q_4, .int 0, .int 0, .int 0, .int (-100000)]))] ++ [(q_1, .inl (ac 0, 23328, .inl (fun _ => 0)))]) ++ [(q_2, .inl (ac 0, 23328, .inl (fun _ => 0)))]) ++ [(q_3, .inl (ac 0, 21, .inl (upd (upd (upd (upd (upd (upd (upd (upd (upd (upd (upd (upd (fun _ => 0) 0 18) 1 36) 2 54) 3 72) 4 90) 5 108) 6 216) 7 324) 8 432) 9 540) 10 648) 11 1296)))]) ++ [(q_4, .inl (ac 0, 21, .inl (fun _ => 0)))]) := hD
  refine lv_iload_n hx hb dX7_init_84 rfl (lv_at hl 0 rfl) ?_
  refine lv_iconst (v := 5) hx hb dX7_init_85 (by decide) ?_
  refine lv_icmp_ne (tgt := 94) hx hb dX7_init_86 (by decide) (fun _ => ?_) (fun h => absurd h (by decide))
  refine lv_iinc (v := 12) (lv' := [(2, .int 12), (3, .int 2), (1, .int 648), (0, .ref h0)]) hx hb dX7_init_94 hl (k := 1) rfl (by decide) (by decide) rfl (fun ls hl => ?_)
  refine lv_goto (tgt := 49) hx hb dX7_init_97 (by decide) ?_
  refine lv_iload_n hx hb dX7_init_49 rfl (lv_at hl 0 rfl) ?_
  refine lv_aload_n hx hb dX7_init_50 rfl (lv_at hl 3 rfl) ?_
  refine va_get (D := D) (ci := 7) (v := .ref q_3) (C := RX7) (T := TX7) (N := 8) hx hb hts in_X7_init_X7 hown hK hP 0 rfl rfl 2 (by decide) (hts _ lk_X7_init_f18) (fun _ h9 => h9) rfl dX7_init_51 ?_
  refine va_alen (v := 21) hx hb hK hP 3 0 rfl rfl rfl dX7_init_54 ?_
  refine lv_icmp_ge (tgt := 100) hx hb dX7_init_55 (by decide) (fun h => absurd h (by decide)) (fun _ => ?_)
  refine lv_iload_n hx hb dX7_init_58 rfl (lv_at hl 0 rfl) ?_
  refine lv_iconst (v := 5) hx hb dX7_init_59 (by decide) ?_
  refine lv_irem hx hb dX7_init_60 (by decide) ?_
  refine lv_tope (z := 2) (by decide) ?_
  refine lv_iconst (v := 1) hx hb dX7_init_61 (by decide) ?_
  refine lv_iadd hx hb dX7_init_62 ?_
  refine lv_tope (z := 3) (by decide) ?_
  refine lv_istore_n (lv' := [(3, .int 3), (2, .int 12), (1, .int 648), (0, .ref h0)]) hx hb dX7_init_63 rfl hl (by decide) rfl (fun ls hl => ?_)
  refine lv_aload_n hx hb dX7_init_64 rfl (lv_at hl 3 rfl) ?_
  refine va_get (D := D) (ci := 7) (v := .ref q_3) (C := RX7) (T := TX7) (N := 8) hx hb hts in_X7_init_X7 hown hK hP 0 rfl rfl 2 (by decide) (hts _ lk_X7_init_f18) (fun _ h9 => h9) rfl dX7_init_65 ?_
  refine lv_iload_n hx hb dX7_init_68 rfl (lv_at hl 1 rfl) ?_
  refine lv_iload_n hx hb dX7_init_69 rfl (lv_at hl 1 rfl) ?_
  refine lv_bipush (v := 20) hx hb dX7_init_70 (by decide) ?_
  refine lv_icmp_ne (tgt := 80) hx hb dX7_init_72 (by decide) (fun _ => ?_) (fun h => absurd h (by decide))
  refine lv_iload_n hx hb dX7_init_80 rfl (lv_at hl 2 rfl) ?_
  refine lv_iload_n hx hb dX7_init_81 rfl (lv_at hl 0 rfl) ?_
  refine lv_imul hx hb dX7_init_82 ?_
  refine lv_tope (z := 1944) (by decide) ?_
  refine va_iast hx hb hK hP hD hS 3 0 rfl rfl (show vp_in 12 21 from by unfold vp_in; decide) dX7_init_83 (fun H locs hP hD hS => ?_)
  have hP : va_P D vwCl (((([(h0, .inr (7, [.ref q_1, .ref q_2, .ref q_3, .ref q_4, .int 0, .int 0, .int 0, .int (-100000)]))] ++ [(q_1, .inl (ac 0, 23328, .inl (fun _ => 0)))]) ++ [(q_2, .inl (ac 0, 23328, .inl (fun _ => 0)))]) ++ [(q_3, .inl (ac 0, 21, .inl (upd (upd (upd (upd (upd (upd (upd (upd (upd (upd (upd (upd (upd (fun _ => 0) 0 18) 1 36) 2 54) 3 72) 4 90) 5 108) 6 216) 7 324) 8 432) 9 540) 10 648) 11 1296) 12 1944)))]) ++ [(q_4, .inl (ac 0, 21, .inl (fun _ => 0)))]) H := hP
  have hD : va_D A (((([(h0, .inr (7, [.ref q_1, .ref q_2, .ref q_3, .ref q_4, .int 0, .int 0, .int 0, .int (-100000)]))] ++ [(q_1, .inl (ac 0, 23328, .inl (fun _ => 0)))]) ++ [(q_2, .inl (ac 0, 23328, .inl (fun _ => 0)))]) ++ [(q_3, .inl (ac 0, 21, .inl (upd (upd (upd (upd (upd (upd (upd (upd (upd (upd (upd (upd (upd (fun _ => 0) 0 18) 1 36) 2 54) 3 72) 4 90) 5 108) 6 216) 7 324) 8 432) 9 540) 10 648) 11 1296) 12 1944)))]) ++ [(q_4, .inl (ac 0, 21, .inl (fun _ => 0)))]) := hD
  refine lv_iload_n hx hb dX7_init_84 rfl (lv_at hl 0 rfl) ?_
  refine lv_iconst (v := 5) hx hb dX7_init_85 (by decide) ?_
  refine lv_icmp_ne (tgt := 94) hx hb dX7_init_86 (by decide) (fun _ => ?_) (fun h => absurd h (by decide))
  refine lv_iinc (v := 13) (lv' := [(2, .int 13), (3, .int 3), (1, .int 648), (0, .ref h0)]) hx hb dX7_init_94 hl (k := 1) rfl (by decide) (by decide) rfl (fun ls hl => ?_)
  refine lv_goto (tgt := 49) hx hb dX7_init_97 (by decide) ?_
  refine lv_iload_n hx hb dX7_init_49 rfl (lv_at hl 0 rfl) ?_
  refine lv_aload_n hx hb dX7_init_50 rfl (lv_at hl 3 rfl) ?_
  refine va_get (D := D) (ci := 7) (v := .ref q_3) (C := RX7) (T := TX7) (N := 8) hx hb hts in_X7_init_X7 hown hK hP 0 rfl rfl 2 (by decide) (hts _ lk_X7_init_f18) (fun _ h9 => h9) rfl dX7_init_51 ?_
  refine va_alen (v := 21) hx hb hK hP 3 0 rfl rfl rfl dX7_init_54 ?_
  refine lv_icmp_ge (tgt := 100) hx hb dX7_init_55 (by decide) (fun h => absurd h (by decide)) (fun _ => ?_)
  refine lv_iload_n hx hb dX7_init_58 rfl (lv_at hl 0 rfl) ?_
  refine lv_iconst (v := 5) hx hb dX7_init_59 (by decide) ?_
  refine lv_irem hx hb dX7_init_60 (by decide) ?_
  refine lv_tope (z := 3) (by decide) ?_
  refine lv_iconst (v := 1) hx hb dX7_init_61 (by decide) ?_
  refine lv_iadd hx hb dX7_init_62 ?_
  refine lv_tope (z := 4) (by decide) ?_
  refine lv_istore_n (lv' := [(3, .int 4), (2, .int 13), (1, .int 648), (0, .ref h0)]) hx hb dX7_init_63 rfl hl (by decide) rfl (fun ls hl => ?_)
  refine lv_aload_n hx hb dX7_init_64 rfl (lv_at hl 3 rfl) ?_
  refine va_get (D := D) (ci := 7) (v := .ref q_3) (C := RX7) (T := TX7) (N := 8) hx hb hts in_X7_init_X7 hown hK hP 0 rfl rfl 2 (by decide) (hts _ lk_X7_init_f18) (fun _ h9 => h9) rfl dX7_init_65 ?_
  refine lv_iload_n hx hb dX7_init_68 rfl (lv_at hl 1 rfl) ?_
  refine lv_iload_n hx hb dX7_init_69 rfl (lv_at hl 1 rfl) ?_
  refine lv_bipush (v := 20) hx hb dX7_init_70 (by decide) ?_
  refine lv_icmp_ne (tgt := 80) hx hb dX7_init_72 (by decide) (fun _ => ?_) (fun h => absurd h (by decide))
  refine lv_iload_n hx hb dX7_init_80 rfl (lv_at hl 2 rfl) ?_
  refine lv_iload_n hx hb dX7_init_81 rfl (lv_at hl 0 rfl) ?_
  refine lv_imul hx hb dX7_init_82 ?_
  refine lv_tope (z := 2592) (by decide) ?_
  refine va_iast hx hb hK hP hD hS 3 0 rfl rfl (show vp_in 13 21 from by unfold vp_in; decide) dX7_init_83 (fun H locs hP hD hS => ?_)
  have hP : va_P D vwCl (((([(h0, .inr (7, [.ref q_1, .ref q_2, .ref q_3, .ref q_4, .int 0, .int 0, .int 0, .int (-100000)]))] ++ [(q_1, .inl (ac 0, 23328, .inl (fun _ => 0)))]) ++ [(q_2, .inl (ac 0, 23328, .inl (fun _ => 0)))]) ++ [(q_3, .inl (ac 0, 21, .inl (upd (upd (upd (upd (upd (upd (upd (upd (upd (upd (upd (upd (upd (upd (fun _ => 0) 0 18) 1 36) 2 54) 3 72) 4 90) 5 108) 6 216) 7 324) 8 432) 9 540) 10 648) 11 1296) 12 1944) 13 2592)))]) ++ [(q_4, .inl (ac 0, 21, .inl (fun _ => 0)))]) H := hP
  have hD : va_D A (((([(h0, .inr (7, [.ref q_1, .ref q_2, .ref q_3, .ref q_4, .int 0, .int 0, .int 0, .int (-100000)]))] ++ [(q_1, .inl (ac 0, 23328, .inl (fun _ => 0)))]) ++ [(q_2, .inl (ac 0, 23328, .inl (fun _ => 0)))]) ++ [(q_3, .inl (ac 0, 21, .inl (upd (upd (upd (upd (upd (upd (upd (upd (upd (upd (upd (upd (upd (upd (fun _ => 0) 0 18) 1 36) 2 54) 3 72) 4 90) 5 108) 6 216) 7 324) 8 432) 9 540) 10 648) 11 1296) 12 1944) 13 2592)))]) ++ [(q_4, .inl (ac 0, 21, .inl (fun _ => 0)))]) := hD
  refine lv_iload_n hx hb dX7_init_84 rfl (lv_at hl 0 rfl) ?_
  refine lv_iconst (v := 5) hx hb dX7_init_85 (by decide) ?_
  refine lv_icmp_ne (tgt := 94) hx hb dX7_init_86 (by decide) (fun _ => ?_) (fun h => absurd h (by decide))
  refine lv_iinc (v := 14) (lv' := [(2, .int 14), (3, .int 4), (1, .int 648), (0, .ref h0)]) hx hb dX7_init_94 hl (k := 1) rfl (by decide) (by decide) rfl (fun ls hl => ?_)
  refine lv_goto (tgt := 49) hx hb dX7_init_97 (by decide) ?_
  refine lv_iload_n hx hb dX7_init_49 rfl (lv_at hl 0 rfl) ?_
  refine lv_aload_n hx hb dX7_init_50 rfl (lv_at hl 3 rfl) ?_
  refine va_get (D := D) (ci := 7) (v := .ref q_3) (C := RX7) (T := TX7) (N := 8) hx hb hts in_X7_init_X7 hown hK hP 0 rfl rfl 2 (by decide) (hts _ lk_X7_init_f18) (fun _ h9 => h9) rfl dX7_init_51 ?_
  refine va_alen (v := 21) hx hb hK hP 3 0 rfl rfl rfl dX7_init_54 ?_
  refine lv_icmp_ge (tgt := 100) hx hb dX7_init_55 (by decide) (fun h => absurd h (by decide)) (fun _ => ?_)
  refine lv_iload_n hx hb dX7_init_58 rfl (lv_at hl 0 rfl) ?_
  refine lv_iconst (v := 5) hx hb dX7_init_59 (by decide) ?_
  refine lv_irem hx hb dX7_init_60 (by decide) ?_
  refine lv_tope (z := 4) (by decide) ?_
  refine lv_iconst (v := 1) hx hb dX7_init_61 (by decide) ?_
  refine lv_iadd hx hb dX7_init_62 ?_
  refine lv_tope (z := 5) (by decide) ?_
  refine lv_istore_n (lv' := [(3, .int 5), (2, .int 14), (1, .int 648), (0, .ref h0)]) hx hb dX7_init_63 rfl hl (by decide) rfl (fun ls hl => ?_)
  refine lv_aload_n hx hb dX7_init_64 rfl (lv_at hl 3 rfl) ?_
  refine va_get (D := D) (ci := 7) (v := .ref q_3) (C := RX7) (T := TX7) (N := 8) hx hb hts in_X7_init_X7 hown hK hP 0 rfl rfl 2 (by decide) (hts _ lk_X7_init_f18) (fun _ h9 => h9) rfl dX7_init_65 ?_
  refine lv_iload_n hx hb dX7_init_68 rfl (lv_at hl 1 rfl) ?_
  refine lv_iload_n hx hb dX7_init_69 rfl (lv_at hl 1 rfl) ?_
  refine lv_bipush (v := 20) hx hb dX7_init_70 (by decide) ?_
  refine lv_icmp_ne (tgt := 80) hx hb dX7_init_72 (by decide) (fun _ => ?_) (fun h => absurd h (by decide))
  refine lv_iload_n hx hb dX7_init_80 rfl (lv_at hl 2 rfl) ?_
  refine lv_iload_n hx hb dX7_init_81 rfl (lv_at hl 0 rfl) ?_
  refine lv_imul hx hb dX7_init_82 ?_
  refine lv_tope (z := 3240) (by decide) ?_
  refine va_iast hx hb hK hP hD hS 3 0 rfl rfl (show vp_in 14 21 from by unfold vp_in; decide) dX7_init_83 (fun H locs hP hD hS => ?_)
  have hP : va_P D vwCl (((([(h0, .inr (7, [.ref q_1, .ref q_2, .ref q_3, .ref q_4, .int 0, .int 0, .int 0, .int (-100000)]))] ++ [(q_1, .inl (ac 0, 23328, .inl (fun _ => 0)))]) ++ [(q_2, .inl (ac 0, 23328, .inl (fun _ => 0)))]) ++ [(q_3, .inl (ac 0, 21, .inl (upd (upd (upd (upd (upd (upd (upd (upd (upd (upd (upd (upd (upd (upd (upd (fun _ => 0) 0 18) 1 36) 2 54) 3 72) 4 90) 5 108) 6 216) 7 324) 8 432) 9 540) 10 648) 11 1296) 12 1944) 13 2592) 14 3240)))]) ++ [(q_4, .inl (ac 0, 21, .inl (fun _ => 0)))]) H := hP
  have hD : va_D A (((([(h0, .inr (7, [.ref q_1, .ref q_2, .ref q_3, .ref q_4, .int 0, .int 0, .int 0, .int (-100000)]))] ++ [(q_1, .inl (ac 0, 23328, .inl (fun _ => 0)))]) ++ [(q_2, .inl (ac 0, 23328, .inl (fun _ => 0)))]) ++ [(q_3, .inl (ac 0, 21, .inl (upd (upd (upd (upd (upd (upd (upd (upd (upd (upd (upd (upd (upd (upd (upd (fun _ => 0) 0 18) 1 36) 2 54) 3 72) 4 90) 5 108) 6 216) 7 324) 8 432) 9 540) 10 648) 11 1296) 12 1944) 13 2592) 14 3240)))]) ++ [(q_4, .inl (ac 0, 21, .inl (fun _ => 0)))]) := hD
  refine lv_iload_n hx hb dX7_init_84 rfl (lv_at hl 0 rfl) ?_
  refine lv_iconst (v := 5) hx hb dX7_init_85 (by decide) ?_
  refine lv_icmp_ne (tgt := 94) hx hb dX7_init_86 (by decide) (fun h => absurd (by decide) h) (fun _ => ?_)
  refine lv_iload_n hx hb dX7_init_89 rfl (lv_at hl 2 rfl) ?_
  refine lv_bipush (v := 6) hx hb dX7_init_90 (by decide) ?_
  refine lv_imul hx hb dX7_init_92 ?_
  refine lv_tope (z := 3888) (by decide) ?_
  refine lv_istore_n (lv' := [(1, .int 3888), (3, .int 5), (2, .int 14), (0, .ref h0)]) hx hb dX7_init_93 rfl hl (by decide) rfl (fun ls hl => ?_)
  refine lv_iinc (v := 15) (lv' := [(2, .int 15), (1, .int 3888), (3, .int 5), (0, .ref h0)]) hx hb dX7_init_94 hl (k := 2) rfl (by decide) (by decide) rfl (fun ls hl => ?_)
  refine lv_goto (tgt := 49) hx hb dX7_init_97 (by decide) ?_
  refine lv_iload_n hx hb dX7_init_49 rfl (lv_at hl 0 rfl) ?_
  refine lv_aload_n hx hb dX7_init_50 rfl (lv_at hl 3 rfl) ?_
  refine va_get (D := D) (ci := 7) (v := .ref q_3) (C := RX7) (T := TX7) (N := 8) hx hb hts in_X7_init_X7 hown hK hP 0 rfl rfl 2 (by decide) (hts _ lk_X7_init_f18) (fun _ h9 => h9) rfl dX7_init_51 ?_
  refine va_alen (v := 21) hx hb hK hP 3 0 rfl rfl rfl dX7_init_54 ?_
  refine lv_icmp_ge (tgt := 100) hx hb dX7_init_55 (by decide) (fun h => absurd h (by decide)) (fun _ => ?_)
  refine lv_iload_n hx hb dX7_init_58 rfl (lv_at hl 0 rfl) ?_
  refine lv_iconst (v := 5) hx hb dX7_init_59 (by decide) ?_
  refine lv_irem hx hb dX7_init_60 (by decide) ?_
  refine lv_tope (z := 0) (by decide) ?_
  refine lv_iconst (v := 1) hx hb dX7_init_61 (by decide) ?_
  refine lv_iadd hx hb dX7_init_62 ?_
  refine lv_tope (z := 1) (by decide) ?_
  refine lv_istore_n (lv' := [(3, .int 1), (2, .int 15), (1, .int 3888), (0, .ref h0)]) hx hb dX7_init_63 rfl hl (by decide) rfl (fun ls hl => ?_)
  refine lv_aload_n hx hb dX7_init_64 rfl (lv_at hl 3 rfl) ?_
  refine va_get (D := D) (ci := 7) (v := .ref q_3) (C := RX7) (T := TX7) (N := 8) hx hb hts in_X7_init_X7 hown hK hP 0 rfl rfl 2 (by decide) (hts _ lk_X7_init_f18) (fun _ h9 => h9) rfl dX7_init_65 ?_
  refine lv_iload_n hx hb dX7_init_68 rfl (lv_at hl 1 rfl) ?_
  refine lv_iload_n hx hb dX7_init_69 rfl (lv_at hl 1 rfl) ?_
  refine lv_bipush (v := 20) hx hb dX7_init_70 (by decide) ?_
  refine lv_icmp_ne (tgt := 80) hx hb dX7_init_72 (by decide) (fun _ => ?_) (fun h => absurd h (by decide))
  refine lv_iload_n hx hb dX7_init_80 rfl (lv_at hl 2 rfl) ?_
  refine lv_iload_n hx hb dX7_init_81 rfl (lv_at hl 0 rfl) ?_
  refine lv_imul hx hb dX7_init_82 ?_
  refine lv_tope (z := 3888) (by decide) ?_
  refine va_iast hx hb hK hP hD hS 3 0 rfl rfl (show vp_in 15 21 from by unfold vp_in; decide) dX7_init_83 (fun H locs hP hD hS => ?_)
  have hP : va_P D vwCl (((([(h0, .inr (7, [.ref q_1, .ref q_2, .ref q_3, .ref q_4, .int 0, .int 0, .int 0, .int (-100000)]))] ++ [(q_1, .inl (ac 0, 23328, .inl (fun _ => 0)))]) ++ [(q_2, .inl (ac 0, 23328, .inl (fun _ => 0)))]) ++ [(q_3, .inl (ac 0, 21, .inl (upd (upd (upd (upd (upd (upd (upd (upd (upd (upd (upd (upd (upd (upd (upd (upd (fun _ => 0) 0 18) 1 36) 2 54) 3 72) 4 90) 5 108) 6 216) 7 324) 8 432) 9 540) 10 648) 11 1296) 12 1944) 13 2592) 14 3240) 15 3888)))]) ++ [(q_4, .inl (ac 0, 21, .inl (fun _ => 0)))]) H := hP
  have hD : va_D A (((([(h0, .inr (7, [.ref q_1, .ref q_2, .ref q_3, .ref q_4, .int 0, .int 0, .int 0, .int (-100000)]))] ++ [(q_1, .inl (ac 0, 23328, .inl (fun _ => 0)))]) ++ [(q_2, .inl (ac 0, 23328, .inl (fun _ => 0)))]) ++ [(q_3, .inl (ac 0, 21, .inl (upd (upd (upd (upd (upd (upd (upd (upd (upd (upd (upd (upd (upd (upd (upd (upd (fun _ => 0) 0 18) 1 36) 2 54) 3 72) 4 90) 5 108) 6 216) 7 324) 8 432) 9 540) 10 648) 11 1296) 12 1944) 13 2592) 14 3240) 15 3888)))]) ++ [(q_4, .inl (ac 0, 21, .inl (fun _ => 0)))]) := hD
  refine lv_iload_n hx hb dX7_init_84 rfl (lv_at hl 0 rfl) ?_
  refine lv_iconst (v := 5) hx hb dX7_init_85 (by decide) ?_
  refine lv_icmp_ne (tgt := 94) hx hb dX7_init_86 (by decide) (fun _ => ?_) (fun h => absurd h (by decide))
  refine lv_iinc (v := 16) (lv' := [(2, .int 16), (3, .int 1), (1, .int 3888), (0, .ref h0)]) hx hb dX7_init_94 hl (k := 1) rfl (by decide) (by decide) rfl (fun ls hl => ?_)
  refine lv_goto (tgt := 49) hx hb dX7_init_97 (by decide) ?_
  refine lv_iload_n hx hb dX7_init_49 rfl (lv_at hl 0 rfl) ?_
  refine lv_aload_n hx hb dX7_init_50 rfl (lv_at hl 3 rfl) ?_
  refine va_get (D := D) (ci := 7) (v := .ref q_3) (C := RX7) (T := TX7) (N := 8) hx hb hts in_X7_init_X7 hown hK hP 0 rfl rfl 2 (by decide) (hts _ lk_X7_init_f18) (fun _ h9 => h9) rfl dX7_init_51 ?_
  refine va_alen (v := 21) hx hb hK hP 3 0 rfl rfl rfl dX7_init_54 ?_
  refine lv_icmp_ge (tgt := 100) hx hb dX7_init_55 (by decide) (fun h => absurd h (by decide)) (fun _ => ?_)
  refine lv_iload_n hx hb dX7_init_58 rfl (lv_at hl 0 rfl) ?_
  refine lv_iconst (v := 5) hx hb dX7_init_59 (by decide) ?_
  refine lv_irem hx hb dX7_init_60 (by decide) ?_
  refine lv_tope (z := 1) (by decide) ?_
  refine lv_iconst (v := 1) hx hb dX7_init_61 (by decide) ?_
  refine lv_iadd hx hb dX7_init_62 ?_
  refine lv_tope (z := 2) (by decide) ?_
  refine lv_istore_n (lv' := [(3, .int 2), (2, .int 16), (1, .int 3888), (0, .ref h0)]) hx hb dX7_init_63 rfl hl (by decide) rfl (fun ls hl => ?_)
  refine lv_aload_n hx hb dX7_init_64 rfl (lv_at hl 3 rfl) ?_
  refine va_get (D := D) (ci := 7) (v := .ref q_3) (C := RX7) (T := TX7) (N := 8) hx hb hts in_X7_init_X7 hown hK hP 0 rfl rfl 2 (by decide) (hts _ lk_X7_init_f18) (fun _ h9 => h9) rfl dX7_init_65 ?_
  refine lv_iload_n hx hb dX7_init_68 rfl (lv_at hl 1 rfl) ?_
  refine lv_iload_n hx hb dX7_init_69 rfl (lv_at hl 1 rfl) ?_
  refine lv_bipush (v := 20) hx hb dX7_init_70 (by decide) ?_
  refine lv_icmp_ne (tgt := 80) hx hb dX7_init_72 (by decide) (fun _ => ?_) (fun h => absurd h (by decide))
  refine lv_iload_n hx hb dX7_init_80 rfl (lv_at hl 2 rfl) ?_
  refine lv_iload_n hx hb dX7_init_81 rfl (lv_at hl 0 rfl) ?_
  refine lv_imul hx hb dX7_init_82 ?_
  refine lv_tope (z := 7776) (by decide) ?_
  refine va_iast hx hb hK hP hD hS 3 0 rfl rfl (show vp_in 16 21 from by unfold vp_in; decide) dX7_init_83 (fun H locs hP hD hS => ?_)
  have hP : va_P D vwCl (((([(h0, .inr (7, [.ref q_1, .ref q_2, .ref q_3, .ref q_4, .int 0, .int 0, .int 0, .int (-100000)]))] ++ [(q_1, .inl (ac 0, 23328, .inl (fun _ => 0)))]) ++ [(q_2, .inl (ac 0, 23328, .inl (fun _ => 0)))]) ++ [(q_3, .inl (ac 0, 21, .inl (upd (upd (upd (upd (upd (upd (upd (upd (upd (upd (upd (upd (upd (upd (upd (upd (upd (fun _ => 0) 0 18) 1 36) 2 54) 3 72) 4 90) 5 108) 6 216) 7 324) 8 432) 9 540) 10 648) 11 1296) 12 1944) 13 2592) 14 3240) 15 3888) 16 7776)))]) ++ [(q_4, .inl (ac 0, 21, .inl (fun _ => 0)))]) H := hP
  have hD : va_D A (((([(h0, .inr (7, [.ref q_1, .ref q_2, .ref q_3, .ref q_4, .int 0, .int 0, .int 0, .int (-100000)]))] ++ [(q_1, .inl (ac 0, 23328, .inl (fun _ => 0)))]) ++ [(q_2, .inl (ac 0, 23328, .inl (fun _ => 0)))]) ++ [(q_3, .inl (ac 0, 21, .inl (upd (upd (upd (upd (upd (upd (upd (upd (upd (upd (upd (upd (upd (upd (upd (upd (upd (fun _ => 0) 0 18) 1 36) 2 54) 3 72) 4 90) 5 108) 6 216) 7 324) 8 432) 9 540) 10 648) 11 1296) 12 1944) 13 2592) 14 3240) 15 3888) 16 7776)))]) ++ [(q_4, .inl (ac 0, 21, .inl (fun _ => 0)))]) := hD
  refine lv_iload_n hx hb dX7_init_84 rfl (lv_at hl 0 rfl) ?_
  refine lv_iconst (v := 5) hx hb dX7_init_85 (by decide) ?_
  refine lv_icmp_ne (tgt := 94) hx hb dX7_init_86 (by decide) (fun _ => ?_) (fun h => absurd h (by decide))
  refine lv_iinc (v := 17) (lv' := [(2, .int 17), (3, .int 2), (1, .int 3888), (0, .ref h0)]) hx hb dX7_init_94 hl (k := 1) rfl (by decide) (by decide) rfl (fun ls hl => ?_)
  refine lv_goto (tgt := 49) hx hb dX7_init_97 (by decide) ?_
  refine lv_iload_n hx hb dX7_init_49 rfl (lv_at hl 0 rfl) ?_
  refine lv_aload_n hx hb dX7_init_50 rfl (lv_at hl 3 rfl) ?_
  refine va_get (D := D) (ci := 7) (v := .ref q_3) (C := RX7) (T := TX7) (N := 8) hx hb hts in_X7_init_X7 hown hK hP 0 rfl rfl 2 (by decide) (hts _ lk_X7_init_f18) (fun _ h9 => h9) rfl dX7_init_51 ?_
  refine va_alen (v := 21) hx hb hK hP 3 0 rfl rfl rfl dX7_init_54 ?_
  refine lv_icmp_ge (tgt := 100) hx hb dX7_init_55 (by decide) (fun h => absurd h (by decide)) (fun _ => ?_)
  refine lv_iload_n hx hb dX7_init_58 rfl (lv_at hl 0 rfl) ?_
  refine lv_iconst (v := 5) hx hb dX7_init_59 (by decide) ?_
  refine lv_irem hx hb dX7_init_60 (by decide) ?_
  refine lv_tope (z := 2) (by decide) ?_
  refine lv_iconst (v := 1) hx hb dX7_init_61 (by decide) ?_
  refine lv_iadd hx hb dX7_init_62 ?_
  refine lv_tope (z := 3) (by decide) ?_
  refine lv_istore_n (lv' := [(3, .int 3), (2, .int 17), (1, .int 3888), (0, .ref h0)]) hx hb dX7_init_63 rfl hl (by decide) rfl (fun ls hl => ?_)
  refine lv_aload_n hx hb dX7_init_64 rfl (lv_at hl 3 rfl) ?_
  refine va_get (D := D) (ci := 7) (v := .ref q_3) (C := RX7) (T := TX7) (N := 8) hx hb hts in_X7_init_X7 hown hK hP 0 rfl rfl 2 (by decide) (hts _ lk_X7_init_f18) (fun _ h9 => h9) rfl dX7_init_65 ?_
  refine lv_iload_n hx hb dX7_init_68 rfl (lv_at hl 1 rfl) ?_
  refine lv_iload_n hx hb dX7_init_69 rfl (lv_at hl 1 rfl) ?_
  refine lv_bipush (v := 20) hx hb dX7_init_70 (by decide) ?_
  refine lv_icmp_ne (tgt := 80) hx hb dX7_init_72 (by decide) (fun _ => ?_) (fun h => absurd h (by decide))
  refine lv_iload_n hx hb dX7_init_80 rfl (lv_at hl 2 rfl) ?_
  refine lv_iload_n hx hb dX7_init_81 rfl (lv_at hl 0 rfl) ?_
  refine lv_imul hx hb dX7_init_82 ?_
  refine lv_tope (z := 11664) (by decide) ?_
  refine va_iast hx hb hK hP hD hS 3 0 rfl rfl (show vp_in 17 21 from by unfold vp_in; decide) dX7_init_83 (fun H locs hP hD hS => ?_)
  have hP : va_P D vwCl (((([(h0, .inr (7, [.ref q_1, .ref q_2, .ref q_3, .ref q_4, .int 0, .int 0, .int 0, .int (-100000)]))] ++ [(q_1, .inl (ac 0, 23328, .inl (fun _ => 0)))]) ++ [(q_2, .inl (ac 0, 23328, .inl (fun _ => 0)))]) ++ [(q_3, .inl (ac 0, 21, .inl (upd (upd (upd (upd (upd (upd (upd (upd (upd (upd (upd (upd (upd (upd (upd (upd (upd (upd (fun _ => 0) 0 18) 1 36) 2 54) 3 72) 4 90) 5 108) 6 216) 7 324) 8 432) 9 540) 10 648) 11 1296) 12 1944) 13 2592) 14 3240) 15 3888) 16 7776) 17 11664)))]) ++ [(q_4, .inl (ac 0, 21, .inl (fun _ => 0)))]) H := hP
  have hD : va_D A (((([(h0, .inr (7, [.ref q_1, .ref q_2, .ref q_3, .ref q_4, .int 0, .int 0, .int 0, .int (-100000)]))] ++ [(q_1, .inl (ac 0, 23328, .inl (fun _ => 0)))]) ++ [(q_2, .inl (ac 0, 23328, .inl (fun _ => 0)))]) ++ [(q_3, .inl (ac 0, 21, .inl (upd (upd (upd (upd (upd (upd (upd (upd (upd (upd (upd (upd (upd (upd (upd (upd (upd (upd (fun _ => 0) 0 18) 1 36) 2 54) 3 72) 4 90) 5 108) 6 216) 7 324) 8 432) 9 540) 10 648) 11 1296) 12 1944) 13 2592) 14 3240) 15 3888) 16 7776) 17 11664)))]) ++ [(q_4, .inl (ac 0, 21, .inl (fun _ => 0)))]) := hD
  refine lv_iload_n hx hb dX7_init_84 rfl (lv_at hl 0 rfl) ?_
  refine lv_iconst (v := 5) hx hb dX7_init_85 (by decide) ?_
  refine lv_icmp_ne (tgt := 94) hx hb dX7_init_86 (by decide) (fun _ => ?_) (fun h => absurd h (by decide))
  refine lv_iinc (v := 18) (lv' := [(2, .int 18), (3, .int 3), (1, .int 3888), (0, .ref h0)]) hx hb dX7_init_94 hl (k := 1) rfl (by decide) (by decide) rfl (fun ls hl => ?_)
  refine lv_goto (tgt := 49) hx hb dX7_init_97 (by decide) ?_
  refine lv_iload_n hx hb dX7_init_49 rfl (lv_at hl 0 rfl) ?_
  refine lv_aload_n hx hb dX7_init_50 rfl (lv_at hl 3 rfl) ?_
  refine va_get (D := D) (ci := 7) (v := .ref q_3) (C := RX7) (T := TX7) (N := 8) hx hb hts in_X7_init_X7 hown hK hP 0 rfl rfl 2 (by decide) (hts _ lk_X7_init_f18) (fun _ h9 => h9) rfl dX7_init_51 ?_
  refine va_alen (v := 21) hx hb hK hP 3 0 rfl rfl rfl dX7_init_54 ?_
  refine lv_icmp_ge (tgt := 100) hx hb dX7_init_55 (by decide) (fun h => absurd h (by decide)) (fun _ => ?_)
  refine lv_iload_n hx hb dX7_init_58 rfl (lv_at hl 0 rfl) ?_
  refine lv_iconst (v := 5) hx hb dX7_init_59 (by decide) ?_
  refine lv_irem hx hb dX7_init_60 (by decide) ?_
  refine lv_tope (z := 3) (by decide) ?_
  refine lv_iconst (v := 1) hx hb dX7_init_61 (by decide) ?_
  refine lv_iadd hx hb dX7_init_62 ?_
  refine lv_tope (z := 4) (by decide) ?_
  refine lv_istore_n (lv' := [(3, .int 4), (2, .int 18), (1, .int 3888), (0, .ref h0)]) hx hb dX7_init_63 rfl hl (by decide) rfl (fun ls hl => ?_)
  refine lv_aload_n hx hb dX7_init_64 rfl (lv_at hl 3 rfl) ?_
  refine va_get (D := D) (ci := 7) (v := .ref q_3) (C := RX7) (T := TX7) (N := 8) hx hb hts in_X7_init_X7 hown hK hP 0 rfl rfl 2 (by decide) (hts _ lk_X7_init_f18) (fun _ h9 => h9) rfl dX7_init_65 ?_
  refine lv_iload_n hx hb dX7_init_68 rfl (lv_at hl 1 rfl) ?_
  refine lv_iload_n hx hb dX7_init_69 rfl (lv_at hl 1 rfl) ?_
  refine lv_bipush (v := 20) hx hb dX7_init_70 (by decide) ?_
  refine lv_icmp_ne (tgt := 80) hx hb dX7_init_72 (by decide) (fun _ => ?_) (fun h => absurd h (by decide))
  refine lv_iload_n hx hb dX7_init_80 rfl (lv_at hl 2 rfl) ?_
  refine lv_iload_n hx hb dX7_init_81 rfl (lv_at hl 0 rfl) ?_
  refine lv_imul hx hb dX7_init_82 ?_
  refine lv_tope (z := 15552) (by decide) ?_
  refine va_iast hx hb hK hP hD hS 3 0 rfl rfl (show vp_in 18 21 from by unfold vp_in; decide) dX7_init_83 (fun H locs hP hD hS => ?_)
  have hP : va_P D vwCl (((([(h0, .inr (7, [.ref q_1, .ref q_2, .ref q_3, .ref q_4, .int 0, .int 0, .int 0, .int (-100000)]))] ++ [(q_1, .inl (ac 0, 23328, .inl (fun _ => 0)))]) ++ [(q_2, .inl (ac 0, 23328, .inl (fun _ => 0)))]) ++ [(q_3, .inl (ac 0, 21, .inl (upd (upd (upd (upd (upd (upd (upd (upd (upd (upd (upd (upd (upd (upd (upd (upd (upd (upd (upd (fun _ => 0) 0 18) 1 36) 2 54) 3 72) 4 90) 5 108) 6 216) 7 324) 8 432) 9 540) 10 648) 11 1296) 12 1944) 13 2592) 14 3240) 15 3888) 16 7776) 17 11664) 18 15552)))]) ++ [(q_4, .inl (ac 0, 21, .inl (fun _ => 0)))]) H := hP
  have hD : va_D A (((([(h0, .inr (7, [.ref q_1, .ref q_2, .ref q_3, .ref q_4, .int 0, .int 0, .int 0, .int (-100000)]))] ++ [(q_1, .inl (ac 0, 23328, .inl (fun _ => 0)))]) ++ [(q_2, .inl (ac 0, 23328, .inl (fun _ => 0)))]) ++ [(q_3, .inl (ac 0, 21, .inl (upd (upd (upd (upd (upd (upd (upd (upd (upd (upd (upd (upd (upd (upd (upd (upd (upd (upd (upd (fun _ => 0) 0 18) 1 36) 2 54) 3 72) 4 90) 5 108) 6 216) 7 324) 8 432) 9 540) 10 648) 11 1296) 12 1944) 13 2592) 14 3240) 15 3888) 16 7776) 17 11664) 18 15552)))]) ++ [(q_4, .inl (ac 0, 21, .inl (fun _ => 0)))]) := hD
  refine lv_iload_n hx hb dX7_init_84 rfl (lv_at hl 0 rfl) ?_
  refine lv_iconst (v := 5) hx hb dX7_init_85 (by decide) ?_
  refine lv_icmp_ne (tgt := 94) hx hb dX7_init_86 (by decide) (fun _ => ?_) (fun h => absurd h (by decide))
  refine lv_iinc (v := 19) (lv' := [(2, .int 19), (3, .int 4), (1, .int 3888), (0, .ref h0)]) hx hb dX7_init_94 hl (k := 1) rfl (by decide) (by decide) rfl (fun ls hl => ?_)
  refine lv_goto (tgt := 49) hx hb dX7_init_97 (by decide) ?_
  refine lv_iload_n hx hb dX7_init_49 rfl (lv_at hl 0 rfl) ?_
  refine lv_aload_n hx hb dX7_init_50 rfl (lv_at hl 3 rfl) ?_
  refine va_get (D := D) (ci := 7) (v := .ref q_3) (C := RX7) (T := TX7) (N := 8) hx hb hts in_X7_init_X7 hown hK hP 0 rfl rfl 2 (by decide) (hts _ lk_X7_init_f18) (fun _ h9 => h9) rfl dX7_init_51 ?_
  refine va_alen (v := 21) hx hb hK hP 3 0 rfl rfl rfl dX7_init_54 ?_
  refine lv_icmp_ge (tgt := 100) hx hb dX7_init_55 (by decide) (fun h => absurd h (by decide)) (fun _ => ?_)
  refine lv_iload_n hx hb dX7_init_58 rfl (lv_at hl 0 rfl) ?_
  refine lv_iconst (v := 5) hx hb dX7_init_59 (by decide) ?_
  refine lv_irem hx hb dX7_init_60 (by decide) ?_
  refine lv_tope (z := 4) (by decide) ?_
  refine lv_iconst (v := 1) hx hb dX7_init_61 (by decide) ?_
  refine lv_iadd hx hb dX7_init_62 ?_
  refine lv_tope (z := 5) (by decide) ?_
  refine lv_istore_n (lv' := [(3, .int 5), (2, .int 19), (1, .int 3888), (0, .ref h0)]) hx hb dX7_init_63 rfl hl (by decide) rfl (fun ls hl => ?_)
  refine lv_aload_n hx hb dX7_init_64 rfl (lv_at hl 3 rfl) ?_
  refine va_get (D := D) (ci := 7) (v := .ref q_3) (C := RX7) (T := TX7) (N := 8) hx hb hts in_X7_init_X7 hown hK hP 0 rfl rfl 2 (by decide) (hts _ lk_X7_init_f18) (fun _ h9 => h9) rfl dX7_init_65 ?_
  refine lv_iload_n hx hb dX7_init_68 rfl (lv_at hl 1 rfl) ?_
  refine lv_iload_n hx hb dX7_init_69 rfl (lv_at hl 1 rfl) ?_
  refine lv_bipush (v := 20) hx hb dX7_init_70 (by decide) ?_
  refine lv_icmp_ne (tgt := 80) hx hb dX7_init_72 (by decide) (fun _ => ?_) (fun h => absurd h (by decide))
  refine lv_iload_n hx hb dX7_init_80 rfl (lv_at hl 2 rfl) ?_
  refine lv_iload_n hx hb dX7_init_81 rfl (lv_at hl 0 rfl) ?_
  refine lv_imul hx hb dX7_init_82 ?_
  refine lv_tope (z := 19440) (by decide) ?_
  refine va_iast hx hb hK hP hD hS 3 0 rfl rfl (show vp_in 19 21 from by unfold vp_in; decide) dX7_init_83 (fun H locs hP hD hS => ?_)
  have hP : va_P D vwCl (((([(h0, .inr (7, [.ref q_1, .ref q_2, .ref q_3, .ref q_4, .int 0, .int 0, .int 0, .int (-100000)]))] ++ [(q_1, .inl (ac 0, 23328, .inl (fun _ => 0)))]) ++ [(q_2, .inl (ac 0, 23328, .inl (fun _ => 0)))]) ++ [(q_3, .inl (ac 0, 21, .inl (upd (upd (upd (upd (upd (upd (upd (upd (upd (upd (upd (upd (upd (upd (upd (upd (upd (upd (upd (upd (fun _ => 0) 0 18) 1 36) 2 54) 3 72) 4 90) 5 108) 6 216) 7 324) 8 432) 9 540) 10 648) 11 1296) 12 1944) 13 2592) 14 3240) 15 3888) 16 7776) 17 11664) 18 15552) 19 19440)))]) ++ [(q_4, .inl (ac 0, 21, .inl (fun _ => 0)))]) H := hP
  have hD : va_D A (((([(h0, .inr (7, [.ref q_1, .ref q_2, .ref q_3, .ref q_4, .int 0, .int 0, .int 0, .int (-100000)]))] ++ [(q_1, .inl (ac 0, 23328, .inl (fun _ => 0)))]) ++ [(q_2, .inl (ac 0, 23328, .inl (fun _ => 0)))]) ++ [(q_3, .inl (ac 0, 21, .inl (upd (upd (upd (upd (upd (upd (upd (upd (upd (upd (upd (upd (upd (upd (upd (upd (upd (upd (upd (upd (fun _ => 0) 0 18) 1 36) 2 54) 3 72) 4 90) 5 108) 6 216) 7 324) 8 432) 9 540) 10 648) 11 1296) 12 1944) 13 2592) 14 3240) 15 3888) 16 7776) 17 11664) 18 15552) 19 19440)))]) ++ [(q_4, .inl (ac 0, 21, .inl (fun _ => 0)))]) := hD
  refine lv_iload_n hx hb dX7_init_84 rfl (lv_at hl 0 rfl) ?_
  refine lv_iconst (v := 5) hx hb dX7_init_85 (by decide) ?_
  refine lv_icmp_ne (tgt := 94) hx hb dX7_init_86 (by decide) (fun h => absurd (by decide) h) (fun _ => ?_)
  refine lv_iload_n hx hb dX7_init_89 rfl (lv_at hl 2 rfl) ?_
  refine lv_bipush (v := 6) hx hb dX7_init_90 (by decide) ?_
  refine lv_imul hx hb dX7_init_92 ?_
  refine lv_tope (z := 23328) (by decide) ?_
  refine lv_istore_n (lv' := [(1, .int 23328), (3, .int 5), (2, .int 19), (0, .ref h0)]) hx hb dX7_init_93 rfl hl (by decide) rfl (fun ls hl => ?_)
  refine lv_iinc (v := 20) (lv' := [(2, .int 20), (1, .int 23328), (3, .int 5), (0, .ref h0)]) hx hb dX7_init_94 hl (k := 2) rfl (by decide) (by decide) rfl (fun ls hl => ?_)
  refine lv_goto (tgt := 49) hx hb dX7_init_97 (by decide) ?_
  refine lv_iload_n hx hb dX7_init_49 rfl (lv_at hl 0 rfl) ?_
  refine lv_aload_n hx hb dX7_init_50 rfl (lv_at hl 3 rfl) ?_
  refine va_get (D := D) (ci := 7) (v := .ref q_3) (C := RX7) (T := TX7) (N := 8) hx hb hts in_X7_init_X7 hown hK hP 0 rfl rfl 2 (by decide) (hts _ lk_X7_init_f18) (fun _ h9 => h9) rfl dX7_init_51 ?_
  refine va_alen (v := 21) hx hb hK hP 3 0 rfl rfl rfl dX7_init_54 ?_
  refine lv_icmp_ge (tgt := 100) hx hb dX7_init_55 (by decide) (fun h => absurd h (by decide)) (fun _ => ?_)
  refine lv_iload_n hx hb dX7_init_58 rfl (lv_at hl 0 rfl) ?_
  refine lv_iconst (v := 5) hx hb dX7_init_59 (by decide) ?_
  refine lv_irem hx hb dX7_init_60 (by decide) ?_
  refine lv_tope (z := 0) (by decide) ?_
  refine lv_iconst (v := 1) hx hb dX7_init_61 (by decide) ?_
  refine lv_iadd hx hb dX7_init_62 ?_
  refine lv_tope (z := 1) (by decide) ?_
  refine lv_istore_n (lv' := [(3, .int 1), (2, .int 20), (1, .int 23328), (0, .ref h0)]) hx hb dX7_init_63 rfl hl (by decide) rfl (fun ls hl => ?_)
  refine lv_aload_n hx hb dX7_init_64 rfl (lv_at hl 3 rfl) ?_
  refine va_get (D := D) (ci := 7) (v := .ref q_3) (C := RX7) (T := TX7) (N := 8) hx hb hts in_X7_init_X7 hown hK hP 0 rfl rfl 2 (by decide) (hts _ lk_X7_init_f18) (fun _ h9 => h9) rfl dX7_init_65 ?_
  refine lv_iload_n hx hb dX7_init_68 rfl (lv_at hl 1 rfl) ?_
  refine lv_iload_n hx hb dX7_init_69 rfl (lv_at hl 1 rfl) ?_
  refine lv_bipush (v := 20) hx hb dX7_init_70 (by decide) ?_
  refine lv_icmp_ne (tgt := 80) hx hb dX7_init_72 (by decide) (fun h => absurd (by decide) h) (fun _ => ?_)
  refine lv_bipush (v := 10) hx hb dX7_init_75 (by decide) ?_
  refine lv_goto (tgt := 83) hx hb dX7_init_77 (by decide) ?_
  refine va_iast hx hb hK hP hD hS 3 0 rfl rfl (show vp_in 20 21 from by unfold vp_in; decide) dX7_init_83 (fun H locs hP hD hS => ?_)
  have hP : va_P D vwCl (((([(h0, .inr (7, [.ref q_1, .ref q_2, .ref q_3, .ref q_4, .int 0, .int 0, .int 0, .int (-100000)]))] ++ [(q_1, .inl (ac 0, 23328, .inl (fun _ => 0)))]) ++ [(q_2, .inl (ac 0, 23328, .inl (fun _ => 0)))]) ++ [(q_3, .inl (ac 0, 21, .inl (upd (upd (upd (upd (upd (upd (upd (upd (upd (upd (upd (upd (upd (upd (upd (upd (upd (upd (upd (upd (upd (fun _ => 0) 0 18) 1 36) 2 54) 3 72) 4 90) 5 108) 6 216) 7 324) 8 432) 9 540) 10 648) 11 1296) 12 1944) 13 2592) 14 3240) 15 3888) 16 7776) 17 11664) 18 15552) 19 19440) 20 10)))]) ++ [(q_4, .inl (ac 0, 21, .inl (fun _ => 0)))]) H := hP
  have hD : va_D A (((([(h0, .inr (7, [.ref q_1, .ref q_2, .ref q_3, .ref q_4, .int 0, .int 0, .int 0, .int (-100000)]))] ++ [(q_1, .inl (ac 0, 23328, .inl (fun _ => 0)))]) ++ [(q_2, .inl (ac 0, 23328, .inl (fun _ => 0)))]) ++ [(q_3, .inl (ac 0, 21, .inl (upd (upd (upd (upd (upd (upd (upd (upd (upd (upd (upd (upd (upd (upd (upd (upd (upd (upd (upd (upd (upd (fun _ => 0) 0 18) 1 36) 2 54) 3 72) 4 90) 5 108) 6 216) 7 324) 8 432) 9 540) 10 648) 11 1296) 12 1944) 13 2592) 14 3240) 15 3888) 16 7776) 17 11664) 18 15552) 19 19440) 20 10)))]) ++ [(q_4, .inl (ac 0, 21, .inl (fun _ => 0)))]) := hD
  refine lv_iload_n hx hb dX7_init_84 rfl (lv_at hl 0 rfl) ?_
  refine lv_iconst (v := 5) hx hb dX7_init_85 (by decide) ?_
  refine lv_icmp_ne (tgt := 94) hx hb dX7_init_86 (by decide) (fun _ => ?_) (fun h => absurd h (by decide))
  refine lv_iinc (v := 21) (lv' := [(2, .int 21), (3, .int 1), (1, .int 23328), (0, .ref h0)]) hx hb dX7_init_94 hl (k := 1) rfl (by decide) (by decide) rfl (fun ls hl => ?_)
  refine lv_goto (tgt := 49) hx hb dX7_init_97 (by decide) ?_
  refine lv_iload_n hx hb dX7_init_49 rfl (lv_at hl 0 rfl) ?_
  refine lv_aload_n hx hb dX7_init_50 rfl (lv_at hl 3 rfl) ?_
  refine va_get (D := D) (ci := 7) (v := .ref q_3) (C := RX7) (T := TX7) (N := 8) hx hb hts in_X7_init_X7 hown hK hP 0 rfl rfl 2 (by decide) (hts _ lk_X7_init_f18) (fun _ h9 => h9) rfl dX7_init_51 ?_
  refine va_alen (v := 21) hx hb hK hP 3 0 rfl rfl rfl dX7_init_54 ?_
  refine lv_icmp_ge (tgt := 100) hx hb dX7_init_55 (by decide) (fun _ => ?_) (fun h => absurd (by decide) h)
  refine W.widen (k := 4) (n := 46698) (Nat.le_of_ble_eq_true rfl) (Nat.le_of_ble_eq_true rfl) ?_
  exact W.vret hx hb hr (fun t ht hW => ⟨⟨(fun _ j => [q_1, q_2, q_3, q_4].getD j 0), rfl, trivial, by rw [ht]; exact hP, hD⟩, hS.F ht⟩) hS.2.2 dX7_init_100
