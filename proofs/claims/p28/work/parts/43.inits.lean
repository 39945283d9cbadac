theorem nx_method_X0_26 : Cond.methodLinkNest "PoisonPiles$Game" 26 ⟨"PoisonPiles$Player", "<init>", "()V"⟩ "PoisonPiles" ∈ nxW := List.mem_of_getElem? (i := 1) rfl
theorem nx_method_X0_34 : Cond.methodLinkNest "PoisonPiles$Game" 34 ⟨"PoisonPiles$Pile", "<init>", "()V"⟩ "PoisonPiles" ∈ nxW := List.mem_of_getElem? (i := 7) rfl
theorem nx_method_X1_17 : Cond.methodLinkNest "PoisonPiles$History" 17 ⟨"PoisonPiles$Game", "<init>", "()V"⟩ "PoisonPiles" ∈ nxW := List.mem_of_getElem? (i := 34) rfl
theorem nx_method_X6_9 : Cond.methodLinkNest "PoisonPiles$Slot" 9 ⟨"PoisonPiles$Game", "<init>", "()V"⟩ "PoisonPiles" ∈ nxW := List.mem_of_getElem? (i := 41) rfl
theorem nx_method_X8_11 : Cond.methodLinkNest "PoisonPiles" 11 ⟨"PoisonPiles$Game", "<init>", "()V"⟩ "PoisonPiles" ∈ nxW := List.mem_of_getElem? (i := 0) rfl
theorem nx_method_X8_24 : Cond.methodLinkNest "PoisonPiles" 24 ⟨"PoisonPiles$History", "<init>", "()V"⟩ "PoisonPiles" ∈ nxW := List.mem_of_getElem? (i := 33) rfl
theorem nx_method_X8_37 : Cond.methodLinkNest "PoisonPiles" 37 ⟨"PoisonPiles$Solver", "<init>", "()V"⟩ "PoisonPiles" ∈ nxW := List.mem_of_getElem? (i := 36) rfl
theorem nx_method_X8_44 : Cond.methodLinkNest "PoisonPiles" 44 ⟨"PoisonPiles$Sizes", "<init>", "()V"⟩ "PoisonPiles" ∈ nxW := List.mem_of_getElem? (i := 37) rfl
theorem nx_method_X8_51 : Cond.methodLinkNest "PoisonPiles" 51 ⟨"PoisonPiles$Pad", "<init>", "()V"⟩ "PoisonPiles" ∈ nxW := List.mem_of_getElem? (i := 38) rfl
theorem nx_method_X8_56 : Cond.methodLinkNest "PoisonPiles" 56 ⟨"PoisonPiles$Slot", "<init>", "()V"⟩ "PoisonPiles" ∈ nxW := List.mem_of_getElem? (i := 40) rfl
def wGame (ac : Nat → ClassId) (h : Nat) (u : Nat → Nat) (o : Nat) : va_W := [(h, .inr (0, [.int 7, .int 10, .ref (u o), .int 0, .ref (u (o + 1)), .ref (u (o + 2)), .int 0, .int 0, .int 0, .int 0])), (u o, .inl (ac 3, 4, .inr (.inr (.inr (.inr (fun j => some (u (o + (3 + j)))))))) ), (u (o + 1), .inr (4, [.int 0, .int 0])), (u (o + 2), .inr (4, [.int 0, .int 0])), (u (o + 3), .inr (3, [.int 0, .int 0, .int 0, .int 0])), (u (o + 4), .inr (3, [.int 0, .int 0, .int 0, .int 0])), (u (o + 5), .inr (3, [.int 0, .int 0, .int 0, .int 0])), (u (o + 6), .inr (3, [.int 0, .int 0, .int 0, .int 0]))]
def wHist (ac : Nat → ClassId) (h : Nat) (u : Nat → Nat → Nat) : va_W := [(h, .inr (1, [.ref (u 0 0), .int 0]))] ++ [(u 0 0, .inl (ac 4, 6, .inr (.inr (.inr (.inr (fun j => some (u 0 (1 + j))))))))] ++ wGame ac (u 0 1) (u 1) 0 ++ wGame ac (u 0 2) (u 2) 0 ++ wGame ac (u 0 3) (u 3) 0 ++ wGame ac (u 0 4) (u 4) 0 ++ wGame ac (u 0 5) (u 5) 0 ++ wGame ac (u 0 6) (u 6) 0
def wSlot (ac : Nat → ClassId) (h : Nat) (u : Nat → Nat → Nat) : va_W := [(h, .inr (6, [.ref (u 0 0), .int 0]))] ++ wGame ac (u 0 0) (u 1) 0
def wSizes (ac : Nat → ClassId) (h : Nat) (u : Nat → Nat) : va_W := [(h, .inr (5, [.ref (u 0), .int 0])), (u 0, .inl (ac 0, 201, .inl (fun _ => 0)))]
def wPad (ac : Nat → ClassId) (h : Nat) (u : Nat → Nat) : va_W := [(h, .inr (2, [.ref (u 0), .int 0])), (u 0, .inl (ac 1, 80, .inl (fun _ => 0)))]
def stpF : Nat → Int32 := (upd (upd (upd (upd (upd (upd (upd (upd (upd (upd (upd (upd (upd (upd (upd (upd (upd (upd (upd (upd (upd (fun _ => 0) 0 18) 1 36) 2 54) 3 72) 4 90) 5 108) 6 216) 7 324) 8 432) 9 540) 10 648) 11 1296) 12 1944) 13 2592) 14 3240) 15 3888) 16 7776) 17 11664) 18 15552) 19 19440) 20 10)
def wSolver (ac : Nat → ClassId) (h : Nat) (u : Nat → Nat) : va_W := [(h, .inr (7, [.ref (u 0), .ref (u 1), .ref (u 2), .ref (u 3), .int 0, .int 0, .int 0, .int (-100000)])), (u 0, .inl (ac 0, 23328, .inl (fun _ => 0))), (u 1, .inl (ac 0, 23328, .inl (fun _ => 0))), (u 2, .inl (ac 0, 21, .inl stpF)), (u 3, .inl (ac 0, 21, .inl (fun _ => 0)))]
def wAll (ac : Nat → ClassId) (h : Nat) (u : Nat → Nat → Nat) : va_W := [(h, .inr (8, [.ref (u 0 0), .ref (u 0 1), .ref (u 0 2), .ref (u 0 3), .ref (u 0 4), .ref (u 0 5), .ref (u 0 6), .ref (u 0 7)]))] ++ wGame ac (u 0 0) (u 1) 0 ++ wGame ac (u 0 1) (u 2) 0 ++ wGame ac (u 0 2) (u 3) 0 ++ wHist ac (u 0 3) (fun k => u (10 + k)) ++ [(u 0 4, .inl (ac 5, 2, .inr (.inr (.inr (.inr (fun j => some (u 0 (8 + j))))))))] ++ wSolver ac (u 0 5) (u 4) ++ wSizes ac (u 0 6) (u 5) ++ wPad ac (u 0 7) (u 6) ++ wSlot ac (u 0 8) (fun k => u (20 + k)) ++ wSlot ac (u 0 9) (fun k => u (22 + k))
theorem lk_X3_init_o1 : Cond.methodLink RX3 1 objectInit ∈ wsX3_init := by decide +kernel
theorem lk_X3_init_o2 : Cond.instanceMethod objectInit ∈ wsX3_init := by decide +kernel
theorem lk_X3_init_o3 : Cond.code objectInit ⟨#[0xb1]⟩ 1 none ∈ wsX3_init := by decide +kernel
set_option maxHeartbeats 4000000 in
set_option maxRecDepth 100000 in
theorem mX3_init (l : Launch) (D : va_G) (ac : Nat → ClassId) (h0 sz : Nat) : Cn l yX3_init wsX3_init ({ frames := 1, cells := 0, slots := 0, locals := 12 }) D ac h0 3 [.int 0, .int 0, .int 0, .int 0] (fun u => [(h0, .inr (3, [.int 0, .int 0, .int 0, .int 0]))]) 0 0 sz := by
  refine Met.ofW (cc := cX3_init) (maxL := 1) (ret := none) (by decide +kernel) rfl ?_
  intro p e s m args below meth c s₁ B hml hv
  obtain ⟨rfl, hsz, hP, hKA⟩ := hv
  have hK := hKA.1
  have hN := hKA.2.1
  have hAO := hKA.2.2
  have hx := B.exec
  have hb := B.bytes
  have hr := B.returns
  have hts := atoms_spec (ws := wsX3_init) B.pre
  have hown : s.vm.findClass RX3 = some m.cls := findClass_of_methodNamed B.named
  have hlocks := B.notSynchronized
  have hin : meth.name = "<init>" := (name_of_methodNamed B.named B.method).1
  subst hsz
  have hD0 : va_D (fun _ => True) [(h0, .inr (3, [.int 0, .int 0, .int 0, .int 0]))] := ⟨fun i j p q hi hj _ => by have h1 := (List.getElem?_eq_some_iff.mp hi).1; have h2 := (List.getElem?_eq_some_iff.mp hj).1; simp only [List.length_cons, List.length_nil] at h1 h2; omega, fun _ _ _ => trivial⟩
  have hD := hD0.self (sz := s.heap.size)
  generalize hAe : va_A [(h0, .inr (3, [.int 0, .int 0, .int 0, .int 0]))] s.heap.size = A at hD ⊢
  have hA : ∀ q : Nat, s.heap.size ≤ q → A q := fun q h => by rw [← hAe]; exact Or.inr h
  have hS : va_S A s.heap s.heap [] := va_S.rf
  have hP : va_P D vwCl [(h0, .inr (3, [.int 0, .int 0, .int 0, .int 0]))] s.heap := hP
  have hl := lv_entry ([.ref h0]) (n := 1) (Nat.le_of_ble_eq_true rfl)
  rw [lg_entry_eq]
  generalize (lg_sl ([.ref h0]) ++ List.replicate (1 - (lg_sl ([.ref h0])).length) Slot.unset).toArray = ls at hl ⊢
  have hl : lv_has ls 1 [(0, .ref h0)] := hl
  refine lv_aload_n hx hb dX3_init_0 rfl (lv_at hl 0 rfl) ?_
  refine W.objInit hx hb hown (hts _ lk_X3_init_o1) (hts _ lk_X3_init_o2) (hts _ lk_X3_init_o3) rfl (by rw [hml]; exact hl.1) rfl dX3_init_1 (Nat.le_of_ble_eq_true rfl) (Nat.le_of_ble_eq_true rfl) ?_
  refine W.eq (g2 := F0 m 4 ls []) rfl ?_
  refine W.widen (k := 0) (n := 0) (Nat.le_of_ble_eq_true rfl) (Nat.le_of_ble_eq_true rfl) ?_
  exact W.vret hx hb hr (fun t ht hW => ⟨⟨(fun _ _ => 0), rfl, trivial, by rw [ht]; exact hP, hD⟩, hS.F ht⟩) hS.2.2 dX3_init_4
theorem lk_X4_init_o1 : Cond.methodLink RX4 1 objectInit ∈ wsX4_init := by decide +kernel
theorem lk_X4_init_o2 : Cond.instanceMethod objectInit ∈ wsX4_init := by decide +kernel
theorem lk_X4_init_o3 : Cond.code objectInit ⟨#[0xb1]⟩ 1 none ∈ wsX4_init := by decide +kernel
set_option maxHeartbeats 4000000 in
set_option maxRecDepth 100000 in
theorem mX4_init (l : Launch) (D : va_G) (ac : Nat → ClassId) (h0 sz : Nat) : Cn l yX4_init wsX4_init ({ frames := 1, cells := 0, slots := 0, locals := 12 }) D ac h0 4 [.int 0, .int 0] (fun u => [(h0, .inr (4, [.int 0, .int 0]))]) 0 0 sz := by
  refine Met.ofW (cc := cX4_init) (maxL := 1) (ret := none) (by decide +kernel) rfl ?_
  intro p e s m args below meth c s₁ B hml hv
  obtain ⟨rfl, hsz, hP, hKA⟩ := hv
  have hK := hKA.1
  have hN := hKA.2.1
  have hAO := hKA.2.2
  have hx := B.exec
  have hb := B.bytes
  have hr := B.returns
  have hts := atoms_spec (ws := wsX4_init) B.pre
  have hown : s.vm.findClass RX4 = some m.cls := findClass_of_methodNamed B.named
  have hlocks := B.notSynchronized
  have hin : meth.name = "<init>" := (name_of_methodNamed B.named B.method).1
  subst hsz
  have hD0 : va_D (fun _ => True) [(h0, .inr (4, [.int 0, .int 0]))] := ⟨fun i j p q hi hj _ => by have h1 := (List.getElem?_eq_some_iff.mp hi).1; have h2 := (List.getElem?_eq_some_iff.mp hj).1; simp only [List.length_cons, List.length_nil] at h1 h2; omega, fun _ _ _ => trivial⟩
  have hD := hD0.self (sz := s.heap.size)
  generalize hAe : va_A [(h0, .inr (4, [.int 0, .int 0]))] s.heap.size = A at hD ⊢
  have hA : ∀ q : Nat, s.heap.size ≤ q → A q := fun q h => by rw [← hAe]; exact Or.inr h
  have hS : va_S A s.heap s.heap [] := va_S.rf
  have hP : va_P D vwCl [(h0, .inr (4, [.int 0, .int 0]))] s.heap := hP
  have hl := lv_entry ([.ref h0]) (n := 1) (Nat.le_of_ble_eq_true rfl)
  rw [lg_entry_eq]
  generalize (lg_sl ([.ref h0]) ++ List.replicate (1 - (lg_sl ([.ref h0])).length) Slot.unset).toArray = ls at hl ⊢
  have hl : lv_has ls 1 [(0, .ref h0)] := hl
  refine lv_aload_n hx hb dX4_init_0 rfl (lv_at hl 0 rfl) ?_
  refine W.objInit hx hb hown (hts _ lk_X4_init_o1) (hts _ lk_X4_init_o2) (hts _ lk_X4_init_o3) rfl (by rw [hml]; exact hl.1) rfl dX4_init_1 (Nat.le_of_ble_eq_true rfl) (Nat.le_of_ble_eq_true rfl) ?_
  refine W.eq (g2 := F0 m 4 ls []) rfl ?_
  refine W.widen (k := 0) (n := 0) (Nat.le_of_ble_eq_true rfl) (Nat.le_of_ble_eq_true rfl) ?_
  exact W.vret hx hb hr (fun t ht hW => ⟨⟨(fun _ _ => 0), rfl, trivial, by rw [ht]; exact hP, hD⟩, hS.F ht⟩) hS.2.2 dX4_init_4
theorem in_X0_init_X0 : ∀ w ∈ u_ws RX0 TX0 10, w ∈ wsX0_init := by decide +kernel
theorem in_X0_init_X3 : ∀ w ∈ u_ws RX3 TX3 4, w ∈ wsX0_init := by decide +kernel
theorem in_X0_init_X4 : ∀ w ∈ u_ws RX4 TX4 2, w ∈ wsX0_init := by decide +kernel
theorem lk_X0_init_f15 : Cond.fieldLink RX0 15 "PoisonPiles$Game" "bonus" "I" ∈ wsX0_init := by decide +kernel
theorem lk_X0_init_f20 : Cond.fieldLink RX0 20 "PoisonPiles$Game" "piles" "[LPoisonPiles$Pile;" ∈ wsX0_init := by decide +kernel
theorem lk_X0_init_f27 : Cond.fieldLink RX0 27 "PoisonPiles$Game" "first" "LPoisonPiles$Player;" ∈ wsX0_init := by decide +kernel
theorem lk_X0_init_f31 : Cond.fieldLink RX0 31 "PoisonPiles$Game" "second" "LPoisonPiles$Player;" ∈ wsX0_init := by decide +kernel
theorem lk_X0_init_f9 : Cond.fieldLink RX0 9 "PoisonPiles$Game" "takes" "I" ∈ wsX0_init := by decide +kernel
theorem lk_X0_init_iX3 : Cond.initialized RX3 ∈ wsX0_init := by decide +kernel
theorem lk_X0_init_iX4 : Cond.initialized RX4 ∈ wsX0_init := by decide +kernel
theorem lk_X0_init_mX3 : Cond.instanceMethod yX3_init ∈ wsX0_init := by decide +kernel
theorem lk_X0_init_mX4 : Cond.instanceMethod yX4_init ∈ wsX0_init := by decide +kernel
theorem lk_X0_init_n18 : Cond.classLink RX0 18 RX3 ∈ wsX0_init := by decide +kernel
theorem lk_X0_init_n24 : Cond.classLink RX0 24 RX4 ∈ wsX0_init := by decide +kernel
theorem lk_X0_init_o1 : Cond.methodLink RX0 3 objectInit ∈ wsX0_init := by decide +kernel
theorem lk_X0_init_o2 : Cond.instanceMethod objectInit ∈ wsX0_init := by decide +kernel
theorem lk_X0_init_o3 : Cond.code objectInit ⟨#[0xb1]⟩ 1 none ∈ wsX0_init := by decide +kernel
theorem lk_X0_init_tX3 : Cond.instantiable RX3 4 ∈ wsX0_init := by decide +kernel
theorem lk_X0_init_tX4 : Cond.instantiable RX4 2 ∈ wsX0_init := by decide +kernel
set_option maxHeartbeats 4000000 in
set_option maxRecDepth 100000 in
theorem mX0_init (l : Launch) (D : va_G) (ac : Nat → ClassId) (h0 sz : Nat) : Cn l yX0_init wsX0_init ({ frames := 2, cells := 7, slots := 24, locals := 32 }) D ac h0 0 [.int 0, .int 0, .null, .int 0, .null, .null, .int 0, .int 0, .int 0, .int 0] (fun u => wGame ac h0 (u 0) 0) 7 24 sz := by
  refine Met.ofW (cc := cX0_init) (maxL := 2) (ret := none) (by decide +kernel) rfl ?_
  intro p e s m args below meth c s₁ B hml hv
  obtain ⟨rfl, hsz, hP, hKA⟩ := hv
  have hK := hKA.1
  have hN := hKA.2.1
  have hAO := hKA.2.2
  have hx := B.exec
  have hb := B.bytes
  have hr := B.returns
  have hts := atoms_spec (ws := wsX0_init) B.pre
  have hown : s.vm.findClass RX0 = some m.cls := findClass_of_methodNamed B.named
  have hlocks := B.notSynchronized
  have hin : meth.name = "<init>" := (name_of_methodNamed B.named B.method).1
  subst hsz
  have hD0 : va_D (fun _ => True) [(h0, .inr (0, [.int 0, .int 0, .null, .int 0, .null, .null, .int 0, .int 0, .int 0, .int 0]))] := ⟨fun i j p q hi hj _ => by have h1 := (List.getElem?_eq_some_iff.mp hi).1; have h2 := (List.getElem?_eq_some_iff.mp hj).1; simp only [List.length_cons, List.length_nil] at h1 h2; omega, fun _ _ _ => trivial⟩
  have hD := hD0.self (sz := s.heap.size)
  generalize hAe : va_A [(h0, .inr (0, [.int 0, .int 0, .null, .int 0, .null, .null, .int 0, .int 0, .int 0, .int 0]))] s.heap.size = A at hD ⊢
  have hA : ∀ q : Nat, s.heap.size ≤ q → A q := fun q h => by rw [← hAe]; exact Or.inr h
  have hS : va_S A s.heap s.heap [] := va_S.rf
  have hP : va_P D vwCl [(h0, .inr (0, [.int 0, .int 0, .null, .int 0, .null, .null, .int 0, .int 0, .int 0, .int 0]))] s.heap := hP
  have hl := lv_entry ([.ref h0]) (n := 2) (Nat.le_of_ble_eq_true rfl)
  rw [lg_entry_eq]
  generalize (lg_sl ([.ref h0]) ++ List.replicate (2 - (lg_sl ([.ref h0])).length) Slot.unset).toArray = ls at hl ⊢
  have hl : lv_has ls 2 [(0, .ref h0)] := hl
  refine lv_aload_n hx hb dX0_init_0 rfl (lv_at hl 0 rfl) ?_
  refine W.objInit hx hb hown (hts _ lk_X0_init_o1) (hts _ lk_X0_init_o2) (hts _ lk_X0_init_o3) rfl (by rw [hml]; exact hl.1) rfl dX0_init_1 (Nat.le_of_ble_eq_true rfl) (Nat.le_of_ble_eq_true rfl) ?_
  refine W.eq (g2 := F0 m 4 ls []) rfl ?_
  refine lv_aload_n hx hb dX0_init_4 rfl (lv_at hl 0 rfl) ?_
  refine lv_bipush (v := 7) hx hb dX0_init_5 (by decide) ?_
  refine va_put (D := D) (ci := 0) (v := .int 7) (ty := .int) (C := RX0) (T := TX0) (N := 10) hx hb hts in_X0_init_X0 tyX0 tyX0_ok nmX0 hown hK hP hD hS 0 rfl rfl 0 (by decide) (hts _ lk_X0_init_f9) (fun _ h9 => h9) rfl (by decide +kernel) rfl rfl (Nat.le_of_ble_eq_true rfl) dX0_init_7 (fun H locs hP hD hS => ?_)
  have hP : va_P D vwCl [(h0, .inr (0, [.int 7, .int 0, .null, .int 0, .null, .null, .int 0, .int 0, .int 0, .int 0]))] H := hP
  have hD : va_D A [(h0, .inr (0, [.int 7, .int 0, .null, .int 0, .null, .null, .int 0, .int 0, .int 0, .int 0]))] := hD
  refine lv_aload_n hx hb dX0_init_10 rfl (lv_at hl 0 rfl) ?_
  refine lv_bipush (v := 10) hx hb dX0_init_11 (by decide) ?_
  refine va_put (D := D) (ci := 0) (v := .int 10) (ty := .int) (C := RX0) (T := TX0) (N := 10) hx hb hts in_X0_init_X0 tyX0 tyX0_ok nmX0 hown hK hP hD hS 0 rfl rfl 1 (by decide) (hts _ lk_X0_init_f15) (fun _ h9 => h9) rfl (by decide +kernel) rfl rfl (Nat.le_of_ble_eq_true rfl) dX0_init_13 (fun H locs hP hD hS => ?_)
  have hP : va_P D vwCl [(h0, .inr (0, [.int 7, .int 10, .null, .int 0, .null, .null, .int 0, .int 0, .int 0, .int 0]))] H := hP
  have hD : va_D A [(h0, .inr (0, [.int 7, .int 10, .null, .int 0, .null, .null, .int 0, .int 0, .int 0, .int 0]))] := hD
  refine lv_aload_n hx hb dX0_init_16 rfl (lv_at hl 0 rfl) ?_
  refine lv_iconst (v := 4) hx hb dX0_init_17 (by decide) ?_
  refine k_newq (C := RX3) (t := 3) hx hb hown (hts _ lk_X0_init_n18) hAO.1 hK rfl hP hD hS hA (N' := 4) (by decide) (by decide) (by decide) (Nat.le_of_ble_eq_true rfl) (Nat.le_of_ble_eq_true rfl) dX0_init_18 (fun q_1 H hP hD hS => ?_)
  have hP : va_P D vwCl ([(h0, .inr (0, [.int 7, .int 10, .null, .int 0, .null, .null, .int 0, .int 0, .int 0, .int 0]))] ++ [(q_1, .inl (ac 3, 4, .inr (.inr (.inr (.inr (fun _ => none))))))]) H := hP
  have hD : va_D A ([(h0, .inr (0, [.int 7, .int 10, .null, .int 0, .null, .null, .int 0, .int 0, .int 0, .int 0]))] ++ [(q_1, .inl (ac 3, 4, .inr (.inr (.inr (.inr (fun _ => none))))))]) := hD
  refine va_putF (D := D) (ci := 0) (v := .ref q_1) (ty := .array (.object "PoisonPiles$Pile")) (C := RX0) (T := TX0) (N := 10) hx hb hts in_X0_init_X0 tyX0 tyX0_ok nmX0 hown hK hP hD hS 0 rfl rfl 2 (by decide) (hts _ lk_X0_init_f20) (fun _ h9 => h9) rfl hin rfl (by decide +kernel) rfl rfl (Nat.le_of_ble_eq_true rfl) dX0_init_21 (fun H locs hP hD hS => ?_)
  have hP : va_P D vwCl ([(h0, .inr (0, [.int 7, .int 10, .ref q_1, .int 0, .null, .null, .int 0, .int 0, .int 0, .int 0]))] ++ [(q_1, .inl (ac 3, 4, .inr (.inr (.inr (.inr (fun _ => none))))))]) H := hP
  have hD : va_D A ([(h0, .inr (0, [.int 7, .int 10, .ref q_1, .int 0, .null, .null, .int 0, .int 0, .int 0, .int 0]))] ++ [(q_1, .inl (ac 3, 4, .inr (.inr (.inr (.inr (fun _ => none))))))]) := hD
  refine lv_aload_n hx hb dX0_init_24 rfl (lv_at hl 0 rfl) ?_
  refine va_new (ci := 4) (fs := [.int 0, .int 0]) (C := RX4) (T := TX4) (N := 2) hx hb hts in_X0_init_X4 tyX4 tyX4_ok hown (hts _ lk_X0_init_n24) (hts _ lk_X0_init_tX4) (hts _ lk_X0_init_iX4) hK hP hD hS hA rfl (fun j hj => by revert hj; revert j; exact fun j hj => by match j, hj with | 0, _ => exact rfl | 1, _ => exact rfl | n + 2, h => exact absurd h (by omega)) (Nat.le_of_ble_eq_true rfl) (Nat.le_of_ble_eq_true rfl) dX0_init_25 (fun q_2 H hP hD hS => ?_)
  have hP : va_P D vwCl (([(h0, .inr (0, [.int 7, .int 10, .ref q_1, .int 0, .null, .null, .int 0, .int 0, .int 0, .int 0]))] ++ [(q_1, .inl (ac 3, 4, .inr (.inr (.inr (.inr (fun _ => none))))))]) ++ [(q_2, .inr (4, [.int 0, .int 0]))]) H := hP
  have hD : va_D A (([(h0, .inr (0, [.int 7, .int 10, .ref q_1, .int 0, .null, .null, .int 0, .int 0, .int 0, .int 0]))] ++ [(q_1, .inl (ac 3, 4, .inr (.inr (.inr (.inr (fun _ => none))))))]) ++ [(q_2, .inr (4, [.int 0, .int 0]))]) := hD
  refine lv_dup hx hb dX0_init_28 rfl ?_
  refine k_made (ws0 := ([(h0, .inr (0, [.int 7, .int 10, .ref q_1, .int 0, .null, .null, .int 0, .int 0, .int 0, .int 0]))] ++ [(q_1, .inl (ac 3, 4, .inr (.inr (.inr (.inr (fun _ => none))))))])) (va_runIN (As := []) (rest := [.ref q_2, .ref h0]) ⟨hx, hb, hml, hown, hts⟩ (mX4_init l D ac q_2 H.size) ⟨va_cnB 0 hts gX0_init_X4_init_n26 rfl rfl rfl (hN _ nx_method_X0_26) (hts _ lk_X0_init_iX4) (by decide +kernel) ⟨Nat.le_of_ble_eq_true rfl, Nat.le_of_ble_eq_true rfl⟩, rfl, hts _ lk_X0_init_mX4⟩ (k_pre hKA hP) rfl rfl hl.1 rfl (lv_room (Nat.le_of_ble_eq_true rfl)) dX0_init_29 ⟨Nat.le_of_ble_eq_true rfl, Nat.le_of_ble_eq_true rfl⟩) hP hD hS hA (fun u_3 H locs hP hD hS => ?_)
  have hP : va_P D vwCl (([(h0, .inr (0, [.int 7, .int 10, .ref q_1, .int 0, .null, .null, .int 0, .int 0, .int 0, .int 0]))] ++ [(q_1, .inl (ac 3, 4, .inr (.inr (.inr (.inr (fun _ => none))))))]) ++ [(q_2, .inr (4, [.int 0, .int 0]))]) H := hP
  have hD : va_D A (([(h0, .inr (0, [.int 7, .int 10, .ref q_1, .int 0, .null, .null, .int 0, .int 0, .int 0, .int 0]))] ++ [(q_1, .inl (ac 3, 4, .inr (.inr (.inr (.inr (fun _ => none))))))]) ++ [(q_2, .inr (4, [.int 0, .int 0]))]) := hD
  refine va_putF (D := D) (ci := 0) (v := .ref q_2) (ty := .object "PoisonPiles$Player") (C := RX0) (T := TX0) (N := 10) hx hb hts in_X0_init_X0 tyX0 tyX0_ok nmX0 hown hK hP hD hS 0 rfl rfl 4 (by decide) (hts _ lk_X0_init_f27) (fun _ h9 => h9) rfl hin rfl (by decide +kernel) rfl rfl (Nat.le_of_ble_eq_true rfl) dX0_init_32 (fun H locs hP hD hS => ?_)
  have hP : va_P D vwCl (([(h0, .inr (0, [.int 7, .int 10, .ref q_1, .int 0, .ref q_2, .null, .int 0, .int 0, .int 0, .int 0]))] ++ [(q_1, .inl (ac 3, 4, .inr (.inr (.inr (.inr (fun _ => none))))))]) ++ [(q_2, .inr (4, [.int 0, .int 0]))]) H := hP
  have hD : va_D A (([(h0, .inr (0, [.int 7, .int 10, .ref q_1, .int 0, .ref q_2, .null, .int 0, .int 0, .int 0, .int 0]))] ++ [(q_1, .inl (ac 3, 4, .inr (.inr (.inr (.inr (fun _ => none))))))]) ++ [(q_2, .inr (4, [.int 0, .int 0]))]) := hD
  refine lv_aload_n hx hb dX0_init_35 rfl (lv_at hl 0 rfl) ?_
  refine va_new (ci := 4) (fs := [.int 0, .int 0]) (C := RX4) (T := TX4) (N := 2) hx hb hts in_X0_init_X4 tyX4 tyX4_ok hown (hts _ lk_X0_init_n24) (hts _ lk_X0_init_tX4) (hts _ lk_X0_init_iX4) hK hP hD hS hA rfl (fun j hj => by revert hj; revert j; exact fun j hj => by match j, hj with | 0, _ => exact rfl | 1, _ => exact rfl | n + 2, h => exact absurd h (by omega)) (Nat.le_of_ble_eq_true rfl) (Nat.le_of_ble_eq_true rfl) dX0_init_36 (fun q_4 H hP hD hS => ?_)
  have hP : va_P D vwCl ((([(h0, .inr (0, [.int 7, .int 10, .ref q_1, .int 0, .ref q_2, .null, .int 0, .int 0, .int 0, .int 0]))] ++ [(q_1, .inl (ac 3, 4, .inr (.inr (.inr (.inr (fun _ => none))))))]) ++ [(q_2, .inr (4, [.int 0, .int 0]))]) ++ [(q_4, .inr (4, [.int 0, .int 0]))]) H := hP
  have hD : va_D A ((([(h0, .inr (0, [.int 7, .int 10, .ref q_1, .int 0, .ref q_2, .null, .int 0, .int 0, .int 0, .int 0]))] ++ [(q_1, .inl (ac 3, 4, .inr (.inr (.inr (.inr (fun _ => none))))))]) ++ [(q_2, .inr (4, [.int 0, .int 0]))]) ++ [(q_4, .inr (4, [.int 0, .int 0]))]) := hD
  refine lv_dup hx hb dX0_init_39 rfl ?_
  refine k_made (ws0 := (([(h0, .inr (0, [.int 7, .int 10, .ref q_1, .int 0, .ref q_2, .null, .int 0, .int 0, .int 0, .int 0]))] ++ [(q_1, .inl (ac 3, 4, .inr (.inr (.inr (.inr (fun _ => none))))))]) ++ [(q_2, .inr (4, [.int 0, .int 0]))])) (va_runIN (As := []) (rest := [.ref q_4, .ref h0]) ⟨hx, hb, hml, hown, hts⟩ (mX4_init l D ac q_4 H.size) ⟨va_cnB 0 hts gX0_init_X4_init_n26 rfl rfl rfl (hN _ nx_method_X0_26) (hts _ lk_X0_init_iX4) (by decide +kernel) ⟨Nat.le_of_ble_eq_true rfl, Nat.le_of_ble_eq_true rfl⟩, rfl, hts _ lk_X0_init_mX4⟩ (k_pre hKA hP) rfl rfl hl.1 rfl (lv_room (Nat.le_of_ble_eq_true rfl)) dX0_init_40 ⟨Nat.le_of_ble_eq_true rfl, Nat.le_of_ble_eq_true rfl⟩) hP hD hS hA (fun u_5 H locs hP hD hS => ?_)
  have hP : va_P D vwCl ((([(h0, .inr (0, [.int 7, .int 10, .ref q_1, .int 0, .ref q_2, .null, .int 0, .int 0, .int 0, .int 0]))] ++ [(q_1, .inl (ac 3, 4, .inr (.inr (.inr (.inr (fun _ => none))))))]) ++ [(q_2, .inr (4, [.int 0, .int 0]))]) ++ [(q_4, .inr (4, [.int 0, .int 0]))]) H := hP
  have hD : va_D A ((([(h0, .inr (0, [.int 7, .int 10, .ref q_1, .int 0, .ref q_2, .null, .int 0, .int 0, .int 0, .int 0]))] ++ [(q_1, .inl (ac 3, 4, .inr (.inr (.inr (.inr (fun _ => none))))))]) ++ [(q_2, .inr (4, [.int 0, .int 0]))]) ++ [(q_4, .inr (4, [.int 0, .int 0]))]) := hD
  refine va_putF (D := D) (ci := 0) (v := .ref q_4) (ty := .object "PoisonPiles$Player") (C := RX0) (T := TX0) (N := 10) hx hb hts in_X0_init_X0 tyX0 tyX0_ok nmX0 hown hK hP hD hS 0 rfl rfl 5 (by decide) (hts _ lk_X0_init_f31) (fun _ h9 => h9) rfl hin rfl (by decide +kernel) rfl rfl (Nat.le_of_ble_eq_true rfl) dX0_init_43 (fun H locs hP hD hS => ?_)
  have hP : va_P D vwCl ((([(h0, .inr (0, [.int 7, .int 10, .ref q_1, .int 0, .ref q_2, .ref q_4, .int 0, .int 0, .int 0, .int 0]))] ++ [(q_1, .inl (ac 3, 4, .inr (.inr (.inr (.inr (fun _ => none))))))]) ++ [(q_2, .inr (4, [.int 0, .int 0]))]) ++ [(q_4, .inr (4, [.int 0, .int 0]))]) H := hP
  have hD : va_D A ((([(h0, .inr (0, [.int 7, .int 10, .ref q_1, .int 0, .ref q_2, .ref q_4, .int 0, .int 0, .int 0, .int 0]))] ++ [(q_1, .inl (ac 3, 4, .inr (.inr (.inr (.inr (fun _ => none))))))]) ++ [(q_2, .inr (4, [.int 0, .int 0]))]) ++ [(q_4, .inr (4, [.int 0, .int 0]))]) := hD
  refine lv_iconst (v := 0) hx hb dX0_init_46 (by decide) ?_
  refine lv_istore_n (lv' := [(1, .int 0), (0, .ref h0)]) hx hb dX0_init_47 rfl hl (by decide) rfl (fun ls hl => ?_)
  refine lv_iload_n hx hb dX0_init_48 rfl (lv_at hl 0 rfl) ?_
  refine lv_aload_n hx hb dX0_init_49 rfl (lv_at hl 1 rfl) ?_
  refine va_get (D := D) (ci := 0) (v := .ref q_1) (C := RX0) (T := TX0) (N := 10) hx hb hts in_X0_init_X0 hown hK hP 0 rfl rfl 2 (by decide) (hts _ lk_X0_init_f20) (fun _ h9 => h9) rfl dX0_init_50 ?_
  refine va_alen (v := 4) hx hb hK hP 1 3 rfl rfl rfl dX0_init_53 ?_
  refine lv_icmp_ge (tgt := 76) hx hb dX0_init_54 (by decide) (fun h => absurd h (by decide)) (fun _ => ?_)
  refine lv_aload_n hx hb dX0_init_57 rfl (lv_at hl 1 rfl) ?_
  refine va_get (D := D) (ci := 0) (v := .ref q_1) (C := RX0) (T := TX0) (N := 10) hx hb hts in_X0_init_X0 hown hK hP 0 rfl rfl 2 (by decide) (hts _ lk_X0_init_f20) (fun _ h9 => h9) rfl dX0_init_58 ?_
  refine lv_iload_n hx hb dX0_init_61 rfl (lv_at hl 0 rfl) ?_
  refine va_new (ci := 3) (fs := [.int 0, .int 0, .int 0, .int 0]) (C := RX3) (T := TX3) (N := 4) hx hb hts in_X0_init_X3 tyX3 tyX3_ok hown (hts _ lk_X0_init_n18) (hts _ lk_X0_init_tX3) (hts _ lk_X0_init_iX3) hK hP hD hS hA rfl (fun j hj => by revert hj; revert j; exact fun j hj => by match j, hj with | 0, _ => exact rfl | 1, _ => exact rfl | 2, _ => exact rfl | 3, _ => exact rfl | n + 4, h => exact absurd h (by omega)) (Nat.le_of_ble_eq_true rfl) (Nat.le_of_ble_eq_true rfl) dX0_init_62 (fun q_6 H hP hD hS => ?_)
  have hP : va_P D vwCl (((([(h0, .inr (0, [.int 7, .int 10, .ref q_1, .int 0, .ref q_2, .ref q_4, .int 0, .int 0, .int 0, .int 0]))] ++ [(q_1, .inl (ac 3, 4, .inr (.inr (.inr (.inr (fun _ => none))))))]) ++ [(q_2, .inr (4, [.int 0, .int 0]))]) ++ [(q_4, .inr (4, [.int 0, .int 0]))]) ++ [(q_6, .inr (3, [.int 0, .int 0, .int 0, .int 0]))]) H := hP
  have hD : va_D A (((([(h0, .inr (0, [.int 7, .int 10, .ref q_1, .int 0, .ref q_2, .ref q_4, .int 0, .int 0, .int 0, .int 0]))] ++ [(q_1, .inl (ac 3, 4, .inr (.inr (.inr (.inr (fun _ => none))))))]) ++ [(q_2, .inr (4, [.int 0, .int 0]))]) ++ [(q_4, .inr (4, [.int 0, .int 0]))]) ++ [(q_6, .inr (3, [.int 0, .int 0, .int 0, .int 0]))]) := hD
  refine lv_dup hx hb dX0_init_65 rfl ?_
  refine k_made (ws0 := ((([(h0, .inr (0, [.int 7, .int 10, .ref q_1, .int 0, .ref q_2, .ref q_4, .int 0, .int 0, .int 0, .int 0]))] ++ [(q_1, .inl (ac 3, 4, .inr (.inr (.inr (.inr (fun _ => none))))))]) ++ [(q_2, .inr (4, [.int 0, .int 0]))]) ++ [(q_4, .inr (4, [.int 0, .int 0]))])) (va_runIN (As := []) (rest := [.ref q_6, .int 0, .ref q_1]) ⟨hx, hb, hml, hown, hts⟩ (mX3_init l D ac q_6 H.size) ⟨va_cnB 0 hts gX0_init_X3_init_n34 rfl rfl rfl (hN _ nx_method_X0_34) (hts _ lk_X0_init_iX3) (by decide +kernel) ⟨Nat.le_of_ble_eq_true rfl, Nat.le_of_ble_eq_true rfl⟩, rfl, hts _ lk_X0_init_mX3⟩ (k_pre hKA hP) rfl rfl hl.1 rfl (lv_room (Nat.le_of_ble_eq_true rfl)) dX0_init_66 ⟨Nat.le_of_ble_eq_true rfl, Nat.le_of_ble_eq_true rfl⟩) hP hD hS hA (fun u_7 H locs hP hD hS => ?_)
  have hP : va_P D vwCl (((([(h0, .inr (0, [.int 7, .int 10, .ref q_1, .int 0, .ref q_2, .ref q_4, .int 0, .int 0, .int 0, .int 0]))] ++ [(q_1, .inl (ac 3, 4, .inr (.inr (.inr (.inr (fun _ => none))))))]) ++ [(q_2, .inr (4, [.int 0, .int 0]))]) ++ [(q_4, .inr (4, [.int 0, .int 0]))]) ++ [(q_6, .inr (3, [.int 0, .int 0, .int 0, .int 0]))]) H := hP
  have hD : va_D A (((([(h0, .inr (0, [.int 7, .int 10, .ref q_1, .int 0, .ref q_2, .ref q_4, .int 0, .int 0, .int 0, .int 0]))] ++ [(q_1, .inl (ac 3, 4, .inr (.inr (.inr (.inr (fun _ => none))))))]) ++ [(q_2, .inr (4, [.int 0, .int 0]))]) ++ [(q_4, .inr (4, [.int 0, .int 0]))]) ++ [(q_6, .inr (3, [.int 0, .int 0, .int 0, .int 0]))]) := hD
  refine va_astq (r := (RX3, TX3, 4)) hx hb hK hP hD hS 1 3 4 3 rfl rfl rfl rfl (show vp_in 0 4 from by unfold vp_in; decide) dX0_init_69 (fun H locs hP hD hS => ?_)
  have hP : va_P D vwCl (((([(h0, .inr (0, [.int 7, .int 10, .ref q_1, .int 0, .ref q_2, .ref q_4, .int 0, .int 0, .int 0, .int 0]))] ++ [(q_1, .inl (ac 3, 4, .inr (.inr (.inr (.inr (va_up (fun _ => none) 0 (some q_6)))))))]) ++ [(q_2, .inr (4, [.int 0, .int 0]))]) ++ [(q_4, .inr (4, [.int 0, .int 0]))]) ++ [(q_6, .inr (3, [.int 0, .int 0, .int 0, .int 0]))]) H := hP
  have hD : va_D A (((([(h0, .inr (0, [.int 7, .int 10, .ref q_1, .int 0, .ref q_2, .ref q_4, .int 0, .int 0, .int 0, .int 0]))] ++ [(q_1, .inl (ac 3, 4, .inr (.inr (.inr (.inr (va_up (fun _ => none) 0 (some q_6)))))))]) ++ [(q_2, .inr (4, [.int 0, .int 0]))]) ++ [(q_4, .inr (4, [.int 0, .int 0]))]) ++ [(q_6, .inr (3, [.int 0, .int 0, .int 0, .int 0]))]) := hD
  refine lv_iinc (v := 1) (lv' := [(1, .int 1), (0, .ref h0)]) hx hb dX0_init_70 hl (k := 0) rfl (by decide) (by decide) rfl (fun ls hl => ?_)
  refine lv_goto (tgt := 48) hx hb dX0_init_73 (by decide) ?_
  refine lv_iload_n hx hb dX0_init_48 rfl (lv_at hl 0 rfl) ?_
  refine lv_aload_n hx hb dX0_init_49 rfl (lv_at hl 1 rfl) ?_
  refine va_get (D := D) (ci := 0) (v := .ref q_1) (C := RX0) (T := TX0) (N := 10) hx hb hts in_X0_init_X0 hown hK hP 0 rfl rfl 2 (by decide) (hts _ lk_X0_init_f20) (fun _ h9 => h9) rfl dX0_init_50 ?_
  refine va_alen (v := 4) hx hb hK hP 1 3 rfl rfl rfl dX0_init_53 ?_
  refine lv_icmp_ge (tgt := 76) hx hb dX0_init_54 (by decide) (fun h => absurd h (by decide)) (fun _ => ?_)
  refine lv_aload_n hx hb dX0_init_57 rfl (lv_at hl 1 rfl) ?_
  refine va_get (D := D) (ci := 0) (v := .ref q_1) (C := RX0) (T := TX0) (N := 10) hx hb hts in_X0_init_X0 hown hK hP 0 rfl rfl 2 (by decide) (hts _ lk_X0_init_f20) (fun _ h9 => h9) rfl dX0_init_58 ?_
  refine lv_iload_n hx hb dX0_init_61 rfl (lv_at hl 0 rfl) ?_
  refine va_new (ci := 3) (fs := [.int 0, .int 0, .int 0, .int 0]) (C := RX3) (T := TX3) (N := 4) hx hb hts in_X0_init_X3 tyX3 tyX3_ok hown (hts _ lk_X0_init_n18) (hts _ lk_X0_init_tX3) (hts _ lk_X0_init_iX3) hK hP hD hS hA rfl (fun j hj => by revert hj; revert j; exact fun j hj => by match j, hj with | 0, _ => exact rfl | 1, _ => exact rfl | 2, _ => exact rfl | 3, _ => exact rfl | n + 4, h => exact absurd h (by omega)) (Nat.le_of_ble_eq_true rfl) (Nat.le_of_ble_eq_true rfl) dX0_init_62 (fun q_8 H hP hD hS => ?_)
  have hP : va_P D vwCl ((((([(h0, .inr (0, [.int 7, .int 10, .ref q_1, .int 0, .ref q_2, .ref q_4, .int 0, .int 0, .int 0, .int 0]))] ++ [(q_1, .inl (ac 3, 4, .inr (.inr (.inr (.inr (va_up (fun _ => none) 0 (some q_6)))))))]) ++ [(q_2, .inr (4, [.int 0, .int 0]))]) ++ [(q_4, .inr (4, [.int 0, .int 0]))]) ++ [(q_6, .inr (3, [.int 0, .int 0, .int 0, .int 0]))]) ++ [(q_8, .inr (3, [.int 0, .int 0, .int 0, .int 0]))]) H := hP
  have hD : va_D A ((((([(h0, .inr (0, [.int 7, .int 10, .ref q_1, .int 0, .ref q_2, .ref q_4, .int 0, .int 0, .int 0, .int 0]))] ++ [(q_1, .inl (ac 3, 4, .inr (.inr (.inr (.inr (va_up (fun _ => none) 0 (some q_6)))))))]) ++ [(q_2, .inr (4, [.int 0, .int 0]))]) ++ [(q_4, .inr (4, [.int 0, .int 0]))]) ++ [(q_6, .inr (3, [.int 0, .int 0, .int 0, .int 0]))]) ++ [(q_8, .inr (3, [.int 0, .int 0, .int 0, .int 0]))]) := hD
  refine lv_dup hx hb dX0_init_65 rfl ?_
  refine k_made (ws0 := (((([(h0, .inr (0, [.int 7, .int 10, .ref q_1, .int 0, .ref q_2, .ref q_4, .int 0, .int 0, .int 0, .int 0]))] ++ [(q_1, .inl (ac 3, 4, .inr (.inr (.inr (.inr (va_up (fun _ => none) 0 (some q_6)))))))]) ++ [(q_2, .inr (4, [.int 0, .int 0]))]) ++ [(q_4, .inr (4, [.int 0, .int 0]))]) ++ [(q_6, .inr (3, [.int 0, .int 0, .int 0, .int 0]))])) (va_runIN (As := []) (rest := [.ref q_8, .int 1, .ref q_1]) ⟨hx, hb, hml, hown, hts⟩ (mX3_init l D ac q_8 H.size) ⟨va_cnB 0 hts gX0_init_X3_init_n34 rfl rfl rfl (hN _ nx_method_X0_34) (hts _ lk_X0_init_iX3) (by decide +kernel) ⟨Nat.le_of_ble_eq_true rfl, Nat.le_of_ble_eq_true rfl⟩, rfl, hts _ lk_X0_init_mX3⟩ (k_pre hKA hP) rfl rfl hl.1 rfl (lv_room (Nat.le_of_ble_eq_true rfl)) dX0_init_66 ⟨Nat.le_of_ble_eq_true rfl, Nat.le_of_ble_eq_true rfl⟩) hP hD hS hA (fun u_9 H locs hP hD hS => ?_)
  have hP : va_P D vwCl ((((([(h0, .inr (0, [.int 7, .int 10, .ref q_1, .int 0, .ref q_2, .ref q_4, .int 0, .int 0, .int 0, .int 0]))] ++ [(q_1, .inl (ac 3, 4, .inr (.inr (.inr (.inr (va_up (fun _ => none) 0 (some q_6)))))))]) ++ [(q_2, .inr (4, [.int 0, .int 0]))]) ++ [(q_4, .inr (4, [.int 0, .int 0]))]) ++ [(q_6, .inr (3, [.int 0, .int 0, .int 0, .int 0]))]) ++ [(q_8, .inr (3, [.int 0, .int 0, .int 0, .int 0]))]) H := hP
  have hD : va_D A ((((([(h0, .inr (0, [.int 7, .int 10, .ref q_1, .int 0, .ref q_2, .ref q_4, .int 0, .int 0, .int 0, .int 0]))] ++ [(q_1, .inl (ac 3, 4, .inr (.inr (.inr (.inr (va_up (fun _ => none) 0 (some q_6)))))))]) ++ [(q_2, .inr (4, [.int 0, .int 0]))]) ++ [(q_4, .inr (4, [.int 0, .int 0]))]) ++ [(q_6, .inr (3, [.int 0, .int 0, .int 0, .int 0]))]) ++ [(q_8, .inr (3, [.int 0, .int 0, .int 0, .int 0]))]) := hD
  refine va_astq (r := (RX3, TX3, 4)) hx hb hK hP hD hS 1 3 5 3 rfl rfl rfl rfl (show vp_in 1 4 from by unfold vp_in; decide) dX0_init_69 (fun H locs hP hD hS => ?_)
  have hP : va_P D vwCl ((((([(h0, .inr (0, [.int 7, .int 10, .ref q_1, .int 0, .ref q_2, .ref q_4, .int 0, .int 0, .int 0, .int 0]))] ++ [(q_1, .inl (ac 3, 4, .inr (.inr (.inr (.inr (va_up (va_up (fun _ => none) 0 (some q_6)) 1 (some q_8)))))))]) ++ [(q_2, .inr (4, [.int 0, .int 0]))]) ++ [(q_4, .inr (4, [.int 0, .int 0]))]) ++ [(q_6, .inr (3, [.int 0, .int 0, .int 0, .int 0]))]) ++ [(q_8, .inr (3, [.int 0, .int 0, .int 0, .int 0]))]) H := hP
  have hD : va_D A ((((([(h0, .inr (0, [.int 7, .int 10, .ref q_1, .int 0, .ref q_2, .ref q_4, .int 0, .int 0, .int 0, .int 0]))] ++ [(q_1, .inl (ac 3, 4, .inr (.inr (.inr (.inr (va_up (va_up (fun _ => none) 0 (some q_6)) 1 (some q_8)))))))]) ++ [(q_2, .inr (4, [.int 0, .int 0]))]) ++ [(q_4, .inr (4, [.int 0, .int 0]))]) ++ [(q_6, .inr (3, [.int 0, .int 0, .int 0, .int 0]))]) ++ [(q_8, .inr (3, [.int 0, .int 0, .int 0, .int 0]))]) := hD
  refine lv_iinc (v := 2) (lv' := [(1, .int 2), (0, .ref h0)]) hx hb dX0_init_70 hl (k := 0) rfl (by decide) (by decide) rfl (fun ls hl => ?_)
  refine lv_goto (tgt := 48) hx hb dX0_init_73 (by decide) ?_
  refine lv_iload_n hx hb dX0_init_48 rfl (lv_at hl 0 rfl) ?_
  refine lv_aload_n hx hb dX0_init_49 rfl (lv_at hl 1 rfl) ?_
  refine va_get (D := D) (ci := 0) (v := .ref q_1) (C := RX0) (T := TX0) (N := 10) hx hb hts in_X0_init_X0 hown hK hP 0 rfl rfl 2 (by decide) (hts _ lk_X0_init_f20) (fun _ h9 => h9) rfl dX0_init_50 ?_
  refine va_alen (v := 4) hx hb hK hP 1 3 rfl rfl rfl dX0_init_53 ?_
  refine lv_icmp_ge (tgt := 76) hx hb dX0_init_54 (by decide) (fun h => absurd h (by decide)) (fun _ => ?_)
  refine lv_aload_n hx hb dX0_init_57 rfl (lv_at hl 1 rfl) ?_
  refine va_get (D := D) (ci := 0) (v := .ref q_1) (C := RX0) (T := TX0) (N := 10) hx hb hts in_X0_init_X0 hown hK hP 0 rfl rfl 2 (by decide) (hts _ lk_X0_init_f20) (fun _ h9 => h9) rfl dX0_init_58 ?_
  refine lv_iload_n hx hb dX0_init_61 rfl (lv_at hl 0 rfl) ?_
  refine va_new (ci := 3) (fs := [.int 0, .int 0, .int 0, .int 0]) (C := RX3) (T := TX3) (N := 4) hx hb hts in_X0_init_X3 tyX3 tyX3_ok hown (hts _ lk_X0_init_n18) (hts _ lk_X0_init_tX3) (hts _ lk_X0_init_iX3) hK hP hD hS hA rfl (fun j hj => by revert hj; revert j; exact fun j hj => by match j, hj with | 0, _ => exact rfl | 1, _ => exact rfl | 2, _ => exact rfl | 3, _ => exact rfl | n + 4, h => exact absurd h (by omega)) (Nat.le_of_ble_eq_true rfl) (Nat.le_of_ble_eq_true rfl) dX0_init_62 (fun q_10 H hP hD hS => ?_)
  have hP : va_P D vwCl (((((([(h0, .inr (0, [.int 7, .int 10, .ref q_1, .int 0, .ref q_2, .ref q_4, .int 0, .int 0, .int 0, .int 0]))] ++ [(q_1, .inl (ac 3, 4, .inr (.inr (.inr (.inr (va_up (va_up (fun _ => none) 0 (some q_6)) 1 (some q_8)))))))]) ++ [(q_2, .inr (4, [.int 0, .int 0]))]) ++ [(q_4, .inr (4, [.int 0, .int 0]))]) ++ [(q_6, .inr (3, [.int 0, .int 0, .int 0, .int 0]))]) ++ [(q_8, .inr (3, [.int 0, .int 0, .int 0, .int 0]))]) ++ [(q_10, .inr (3, [.int 0, .int 0, .int 0, .int 0]))]) H := hP
  have hD : va_D A (((((([(h0, .inr (0, [.int 7, .int 10, .ref q_1, .int 0, .ref q_2, .ref q_4, .int 0, .int 0, .int 0, .int 0]))] ++ [(q_1, .inl (ac 3, 4, .inr (.inr (.inr (.inr (va_up (va_up (fun _ => none) 0 (some q_6)) 1 (some q_8)))))))]) ++ [(q_2, .inr (4, [.int 0, .int 0]))]) ++ [(q_4, .inr (4, [.int 0, .int 0]))]) ++ [(q_6, .inr (3, [.int 0, .int 0, .int 0, .int 0]))]) ++ [(q_8, .inr (3, [.int 0, .int 0, .int 0, .int 0]))]) ++ [(q_10, .inr (3, [.int 0, .int 0, .int 0, .int 0]))]) := hD
  refine lv_dup hx hb dX0_init_65 rfl ?_
  refine k_made (ws0 := ((((([(h0, .inr (0, [.int 7, .int 10, .ref q_1, .int 0, .ref q_2, .ref q_4, .int 0, .int 0, .int 0, .int 0]))] ++ [(q_1, .inl (ac 3, 4, .inr (.inr (.inr (.inr (va_up (va_up (fun _ => none) 0 (some q_6)) 1 (some q_8)))))))]) ++ [(q_2, .inr (4, [.int 0, .int 0]))]) ++ [(q_4, .inr (4, [.int 0, .int 0]))]) ++ [(q_6, .inr (3, [.int 0, .int 0, .int 0, .int 0]))]) ++ [(q_8, .inr (3, [.int 0, .int 0, .int 0, .int 0]))])) (va_runIN (As := []) (rest := [.ref q_10, .int 2, .ref q_1]) ⟨hx, hb, hml, hown, hts⟩ (mX3_init l D ac q_10 H.size) ⟨va_cnB 0 hts gX0_init_X3_init_n34 rfl rfl rfl (hN _ nx_method_X0_34) (hts _ lk_X0_init_iX3) (by decide +kernel) ⟨Nat.le_of_ble_eq_true rfl, Nat.le_of_ble_eq_true rfl⟩, rfl, hts _ lk_X0_init_mX3⟩ (k_pre hKA hP) rfl rfl hl.1 rfl (lv_room (Nat.le_of_ble_eq_true rfl)) dX0_init_66 ⟨Nat.le_of_ble_eq_true rfl, Nat.le_of_ble_eq_true rfl⟩) hP hD hS hA (fun u_11 H locs hP hD hS => ?_)
  have hP : va_P D vwCl (((((([(h0, .inr (0, [.int 7, .int 10, .ref q_1, .int 0, .ref q_2, .ref q_4, .int 0, .int 0, .int 0, .int 0]))] ++ [(q_1, .inl (ac 3, 4, .inr (.inr (.inr (.inr (va_up (va_up (fun _ => none) 0 (some q_6)) 1 (some q_8)))))))]) ++ [(q_2, .inr (4, [.int 0, .int 0]))]) ++ [(q_4, .inr (4, [.int 0, .int 0]))]) ++ [(q_6, .inr (3, [.int 0, .int 0, .int 0, .int 0]))]) ++ [(q_8, .inr (3, [.int 0, .int 0, .int 0, .int 0]))]) ++ [(q_10, .inr (3, [.int 0, .int 0, .int 0, .int 0]))]) H := hP
  have hD : va_D A (((((([(h0, .inr (0, [.int 7, .int 10, .ref q_1, .int 0, .ref q_2, .ref q_4, .int 0, .int 0, .int 0, .int 0]))] ++ [(q_1, .inl (ac 3, 4, .inr (.inr (.inr (.inr (va_up (va_up (fun _ => none) 0 (some q_6)) 1 (some q_8)))))))]) ++ [(q_2, .inr (4, [.int 0, .int 0]))]) ++ [(q_4, .inr (4, [.int 0, .int 0]))]) ++ [(q_6, .inr (3, [.int 0, .int 0, .int 0, .int 0]))]) ++ [(q_8, .inr (3, [.int 0, .int 0, .int 0, .int 0]))]) ++ [(q_10, .inr (3, [.int 0, .int 0, .int 0, .int 0]))]) := hD
  refine va_astq (r := (RX3, TX3, 4)) hx hb hK hP hD hS 1 3 6 3 rfl rfl rfl rfl (show vp_in 2 4 from by unfold vp_in; decide) dX0_init_69 (fun H locs hP hD hS => ?_)
  have hP : va_P D vwCl (((((([(h0, .inr (0, [.int 7, .int 10, .ref q_1, .int 0, .ref q_2, .ref q_4, .int 0, .int 0, .int 0, .int 0]))] ++ [(q_1, .inl (ac 3, 4, .inr (.inr (.inr (.inr (va_up (va_up (va_up (fun _ => none) 0 (some q_6)) 1 (some q_8)) 2 (some q_10)))))))]) ++ [(q_2, .inr (4, [.int 0, .int 0]))]) ++ [(q_4, .inr (4, [.int 0, .int 0]))]) ++ [(q_6, .inr (3, [.int 0, .int 0, .int 0, .int 0]))]) ++ [(q_8, .inr (3, [.int 0, .int 0, .int 0, .int 0]))]) ++ [(q_10, .inr (3, [.int 0, .int 0, .int 0, .int 0]))]) H := hP
  have hD : va_D A (((((([(h0, .inr (0, [.int 7, .int 10, .ref q_1, .int 0, .ref q_2, .ref q_4, .int 0, .int 0, .int 0, .int 0]))] ++ [(q_1, .inl (ac 3, 4, .inr (.inr (.inr (.inr (va_up (va_up (va_up (fun _ => none) 0 (some q_6)) 1 (some q_8)) 2 (some q_10)))))))]) ++ [(q_2, .inr (4, [.int 0, .int 0]))]) ++ [(q_4, .inr (4, [.int 0, .int 0]))]) ++ [(q_6, .inr (3, [.int 0, .int 0, .int 0, .int 0]))]) ++ [(q_8, .inr (3, [.int 0, .int 0, .int 0, .int 0]))]) ++ [(q_10, .inr (3, [.int 0, .int 0, .int 0, .int 0]))]) := hD
  refine lv_iinc (v := 3) (lv' := [(1, .int 3), (0, .ref h0)]) hx hb dX0_init_70 hl (k := 0) rfl (by decide) (by decide) rfl (fun ls hl => ?_)
  refine lv_goto (tgt := 48) hx hb dX0_init_73 (by decide) ?_
  refine lv_iload_n hx hb dX0_init_48 rfl (lv_at hl 0 rfl) ?_
  refine lv_aload_n hx hb dX0_init_49 rfl (lv_at hl 1 rfl) ?_
  refine va_get (D := D) (ci := 0) (v := .ref q_1) (C := RX0) (T := TX0) (N := 10) hx hb hts in_X0_init_X0 hown hK hP 0 rfl rfl 2 (by decide) (hts _ lk_X0_init_f20) (fun _ h9 => h9) rfl dX0_init_50 ?_
  refine va_alen (v := 4) hx hb hK hP 1 3 rfl rfl rfl dX0_init_53 ?_
  refine lv_icmp_ge (tgt := 76) hx hb dX0_init_54 (by decide) (fun h => absurd h (by decide)) (fun _ => ?_)
  refine lv_aload_n hx hb dX0_init_57 rfl (lv_at hl 1 rfl) ?_
  refine va_get (D := D) (ci := 0) (v := .ref q_1) (C := RX0) (T := TX0) (N := 10) hx hb hts in_X0_init_X0 hown hK hP 0 rfl rfl 2 (by decide) (hts _ lk_X0_init_f20) (fun _ h9 => h9) rfl dX0_init_58 ?_
  refine lv_iload_n hx hb dX0_init_61 rfl (lv_at hl 0 rfl) ?_
  refine va_new (ci := 3) (fs := [.int 0, .int 0, .int 0, .int 0]) (C := RX3) (T := TX3) (N := 4) hx hb hts in_X0_init_X3 tyX3 tyX3_ok hown (hts _ lk_X0_init_n18) (hts _ lk_X0_init_tX3) (hts _ lk_X0_init_iX3) hK hP hD hS hA rfl (fun j hj => by revert hj; revert j; exact fun j hj => by match j, hj with | 0, _ => exact rfl | 1, _ => exact rfl | 2, _ => exact rfl | 3, _ => exact rfl | n + 4, h => exact absurd h (by omega)) (Nat.le_of_ble_eq_true rfl) (Nat.le_of_ble_eq_true rfl) dX0_init_62 (fun q_12 H hP hD hS => ?_)
  have hP : va_P D vwCl ((((((([(h0, .inr (0, [.int 7, .int 10, .ref q_1, .int 0, .ref q_2, .ref q_4, .int 0, .int 0, .int 0, .int 0]))] ++ [(q_1, .inl (ac 3, 4, .inr (.inr (.inr (.inr (va_up (va_up (va_up (fun _ => none) 0 (some q_6)) 1 (some q_8)) 2 (some q_10)))))))]) ++ [(q_2, .inr (4, [.int 0, .int 0]))]) ++ [(q_4, .inr (4, [.int 0, .int 0]))]) ++ [(q_6, .inr (3, [.int 0, .int 0, .int 0, .int 0]))]) ++ [(q_8, .inr (3, [.int 0, .int 0, .int 0, .int 0]))]) ++ [(q_10, .inr (3, [.int 0, .int 0, .int 0, .int 0]))]) ++ [(q_12, .inr (3, [.int 0, .int 0, .int 0, .int 0]))]) H := hP
  have hD : va_D A ((((((([(h0, .inr (0, [.int 7, .int 10, .ref q_1, .int 0, .ref q_2, .ref q_4, .int 0, .int 0, .int 0, .int 0]))] ++ [(q_1, .inl (ac 3, 4, .inr (.inr (.inr (.inr (va_up (va_up (va_up (fun _ => none) 0 (some q_6)) 1 (some q_8)) 2 (some q_10)))))))]) ++ [(q_2, .inr (4, [.int 0, .int 0]))]) ++ [(q_4, .inr (4, [.int 0, .int 0]))]) ++ [(q_6, .inr (3, [.int 0, .int 0, .int 0, .int 0]))]) ++ [(q_8, .inr (3, [.int 0, .int 0, .int 0, .int 0]))]) ++ [(q_10, .inr (3, [.int 0, .int 0, .int 0, .int 0]))]) ++ [(q_12, .inr (3, [.int 0, .int 0, .int 0, .int 0]))]) := hD
  refine lv_dup hx hb dX0_init_65 rfl ?_
  refine k_made (ws0 := (((((([(h0, .inr (0, [.int 7, .int 10, .ref q_1, .int 0, .ref q_2, .ref q_4, .int 0, .int 0, .int 0, .int 0]))] ++ [(q_1, .inl (ac 3, 4, .inr (.inr (.inr (.inr (va_up (va_up (va_up (fun _ => none) 0 (some q_6)) 1 (some q_8)) 2 (some q_10)))))))]) ++ [(q_2, .inr (4, [.int 0, .int 0]))]) ++ [(q_4, .inr (4, [.int 0, .int 0]))]) ++ [(q_6, .inr (3, [.int 0, .int 0, .int 0, .int 0]))]) ++ [(q_8, .inr (3, [.int 0, .int 0, .int 0, .int 0]))]) ++ [(q_10, .inr (3, [.int 0, .int 0, .int 0, .int 0]))])) (va_runIN (As := []) (rest := [.ref q_12, .int 3, .ref q_1]) ⟨hx, hb, hml, hown, hts⟩ (mX3_init l D ac q_12 H.size) ⟨va_cnB 0 hts gX0_init_X3_init_n34 rfl rfl rfl (hN _ nx_method_X0_34) (hts _ lk_X0_init_iX3) (by decide +kernel) ⟨Nat.le_of_ble_eq_true rfl, Nat.le_of_ble_eq_true rfl⟩, rfl, hts _ lk_X0_init_mX3⟩ (k_pre hKA hP) rfl rfl hl.1 rfl (lv_room (Nat.le_of_ble_eq_true rfl)) dX0_init_66 ⟨Nat.le_of_ble_eq_true rfl, Nat.le_of_ble_eq_true rfl⟩) hP hD hS hA (fun u_13 H locs hP hD hS => ?_)
  have hP : va_P D vwCl ((((((([(h0, .inr (0, [.int 7, .int 10, .ref q_1, .int 0, .ref q_2, .ref q_4, .int 0, .int 0, .int 0, .int 0]))] ++ [(q_1, .inl (ac 3, 4, .inr (.inr (.inr (.inr (va_up (va_up (va_up (fun _ => none) 0 (some q_6)) 1 (some q_8)) 2 (some q_10)))))))]) ++ [(q_2, .inr (4, [.int 0, .int 0]))]) ++ [(q_4, .inr (4, [.int 0, .int 0]))]) ++ [(q_6, .inr (3, [.int 0, .int 0, .int 0, .int 0]))]) ++ [(q_8, .inr (3, [.int 0, .int 0, .int 0, .int 0]))]) ++ [(q_10, .inr (3, [.int 0, .int 0, .int 0, .int 0]))]) ++ [(q_12, .inr (3, [.int 0, .int 0, .int 0, .int 0]))]) H := hP
  have hD : va_D A ((((((([(h0, .inr (0, [.int 7, .int 10, .ref q_1, .int 0, .ref q_2, .ref q_4, .int 0, .int 0, .int 0, .int 0]))] ++ [(q_1, .inl (ac 3, 4, .inr (.inr (.inr (.inr (va_up (va_up (va_up (fun _ => none) 0 (some q_6)) 1 (some q_8)) 2 (some q_10)))))))]) ++ [(q_2, .inr (4, [.int 0, .int 0]))]) ++ [(q_4, .inr (4, [.int 0, .int 0]))]) ++ [(q_6, .inr (3, [.int 0, .int 0, .int 0, .int 0]))]) ++ [(q_8, .inr (3, [.int 0, .int 0, .int 0, .int 0]))]) ++ [(q_10, .inr (3, [.int 0, .int 0, .int 0, .int 0]))]) ++ [(q_12, .inr (3, [.int 0, .int 0, .int 0, .int 0]))]) := hD
  refine va_astq (r := (RX3, TX3, 4)) hx hb hK hP hD hS 1 3 7 3 rfl rfl rfl rfl (show vp_in 3 4 from by unfold vp_in; decide) dX0_init_69 (fun H locs hP hD hS => ?_)
  have hP : va_P D vwCl ((((((([(h0, .inr (0, [.int 7, .int 10, .ref q_1, .int 0, .ref q_2, .ref q_4, .int 0, .int 0, .int 0, .int 0]))] ++ [(q_1, .inl (ac 3, 4, .inr (.inr (.inr (.inr (va_up (va_up (va_up (va_up (fun _ => none) 0 (some q_6)) 1 (some q_8)) 2 (some q_10)) 3 (some q_12)))))))]) ++ [(q_2, .inr (4, [.int 0, .int 0]))]) ++ [(q_4, .inr (4, [.int 0, .int 0]))]) ++ [(q_6, .inr (3, [.int 0, .int 0, .int 0, .int 0]))]) ++ [(q_8, .inr (3, [.int 0, .int 0, .int 0, .int 0]))]) ++ [(q_10, .inr (3, [.int 0, .int 0, .int 0, .int 0]))]) ++ [(q_12, .inr (3, [.int 0, .int 0, .int 0, .int 0]))]) H := hP
  have hD : va_D A ((((((([(h0, .inr (0, [.int 7, .int 10, .ref q_1, .int 0, .ref q_2, .ref q_4, .int 0, .int 0, .int 0, .int 0]))] ++ [(q_1, .inl (ac 3, 4, .inr (.inr (.inr (.inr (va_up (va_up (va_up (va_up (fun _ => none) 0 (some q_6)) 1 (some q_8)) 2 (some q_10)) 3 (some q_12)))))))]) ++ [(q_2, .inr (4, [.int 0, .int 0]))]) ++ [(q_4, .inr (4, [.int 0, .int 0]))]) ++ [(q_6, .inr (3, [.int 0, .int 0, .int 0, .int 0]))]) ++ [(q_8, .inr (3, [.int 0, .int 0, .int 0, .int 0]))]) ++ [(q_10, .inr (3, [.int 0, .int 0, .int 0, .int 0]))]) ++ [(q_12, .inr (3, [.int 0, .int 0, .int 0, .int 0]))]) := hD
  refine lv_iinc (v := 4) (lv' := [(1, .int 4), (0, .ref h0)]) hx hb dX0_init_70 hl (k := 0) rfl (by decide) (by decide) rfl (fun ls hl => ?_)
  refine lv_goto (tgt := 48) hx hb dX0_init_73 (by decide) ?_
  refine lv_iload_n hx hb dX0_init_48 rfl (lv_at hl 0 rfl) ?_
  refine lv_aload_n hx hb dX0_init_49 rfl (lv_at hl 1 rfl) ?_
  refine va_get (D := D) (ci := 0) (v := .ref q_1) (C := RX0) (T := TX0) (N := 10) hx hb hts in_X0_init_X0 hown hK hP 0 rfl rfl 2 (by decide) (hts _ lk_X0_init_f20) (fun _ h9 => h9) rfl dX0_init_50 ?_
  refine va_alen (v := 4) hx hb hK hP 1 3 rfl rfl rfl dX0_init_53 ?_
  refine lv_icmp_ge (tgt := 76) hx hb dX0_init_54 (by decide) (fun _ => ?_) (fun h => absurd (by decide) h)
  have hP : va_P D vwCl ((((((([(h0, .inr (0, [.int 7, .int 10, .ref q_1, .int 0, .ref q_2, .ref q_4, .int 0, .int 0, .int 0, .int 0]))] ++ [(q_1, .inl (ac 3, 4, .inr (.inr (.inr (.inr (fun j => some ([q_1, q_2, q_4, q_6, q_8, q_10, q_12].getD (0 + (3 + j)) 0)))))))]) ++ [(q_2, .inr (4, [.int 0, .int 0]))]) ++ [(q_4, .inr (4, [.int 0, .int 0]))]) ++ [(q_6, .inr (3, [.int 0, .int 0, .int 0, .int 0]))]) ++ [(q_8, .inr (3, [.int 0, .int 0, .int 0, .int 0]))]) ++ [(q_10, .inr (3, [.int 0, .int 0, .int 0, .int 0]))]) ++ [(q_12, .inr (3, [.int 0, .int 0, .int 0, .int 0]))]) H := hP.refs (f' := (fun j => some ([q_1, q_2, q_4, q_6, q_8, q_10, q_12].getD (0 + (3 + j)) 0))) 1 rfl (fun j hj => by match j, hj with | 0, _ => exact rfl | 1, _ => exact rfl | 2, _ => exact rfl | 3, _ => exact rfl | n + 4, h => exact absurd h (by omega)) rfl
  have hD : va_D A ((((((([(h0, .inr (0, [.int 7, .int 10, .ref q_1, .int 0, .ref q_2, .ref q_4, .int 0, .int 0, .int 0, .int 0]))] ++ [(q_1, .inl (ac 3, 4, .inr (.inr (.inr (.inr (fun j => some ([q_1, q_2, q_4, q_6, q_8, q_10, q_12].getD (0 + (3 + j)) 0)))))))]) ++ [(q_2, .inr (4, [.int 0, .int 0]))]) ++ [(q_4, .inr (4, [.int 0, .int 0]))]) ++ [(q_6, .inr (3, [.int 0, .int 0, .int 0, .int 0]))]) ++ [(q_8, .inr (3, [.int 0, .int 0, .int 0, .int 0]))]) ++ [(q_10, .inr (3, [.int 0, .int 0, .int 0, .int 0]))]) ++ [(q_12, .inr (3, [.int 0, .int 0, .int 0, .int 0]))]) := hD.setD 1 rfl rfl
  refine W.widen (k := 7) (n := 24) (Nat.le_of_ble_eq_true rfl) (Nat.le_of_ble_eq_true rfl) ?_
  exact W.vret hx hb hr (fun t ht hW => ⟨⟨(fun _ j => [q_1, q_2, q_4, q_6, q_8, q_10, q_12].getD j 0), rfl, trivial, by rw [ht]; exact hP, hD⟩, hS.F ht⟩) hS.2.2 dX0_init_76
theorem in_X5_init_X5 : ∀ w ∈ u_ws RX5 TX5 2, w ∈ wsX5_init := by decide +kernel
theorem lk_X5_init_aint : Cond.arrayClass .int ∈ wsX5_init := by decide +kernel
theorem lk_X5_init_f9 : Cond.fieldLink RX5 9 "PoisonPiles$Sizes" "nimbers" "[I" ∈ wsX5_init := by decide +kernel
theorem lk_X5_init_o1 : Cond.methodLink RX5 3 objectInit ∈ wsX5_init := by decide +kernel
theorem lk_X5_init_o2 : Cond.instanceMethod objectInit ∈ wsX5_init := by decide +kernel
theorem lk_X5_init_o3 : Cond.code objectInit ⟨#[0xb1]⟩ 1 none ∈ wsX5_init := by decide +kernel
set_option maxHeartbeats 4000000 in
set_option maxRecDepth 100000 in
theorem mX5_init (l : Launch) (D : va_G) (ac : Nat → ClassId) (h0 sz : Nat) : Cn l yX5_init wsX5_init ({ frames := 1, cells := 1, slots := 201, locals := 12 }) D ac h0 5 [.null, .int 0] (fun u => wSizes ac h0 (u 0)) 1 201 sz := by
  refine Met.ofW (cc := cX5_init) (maxL := 1) (ret := none) (by decide +kernel) rfl ?_
  intro p e s m args below meth c s₁ B hml hv
  obtain ⟨rfl, hsz, hP, hKA⟩ := hv
  have hK := hKA.1
  have hN := hKA.2.1
  have hAO := hKA.2.2
  have hx := B.exec
  have hb := B.bytes
  have hr := B.returns
  have hts := atoms_spec (ws := wsX5_init) B.pre
  have hown : s.vm.findClass RX5 = some m.cls := findClass_of_methodNamed B.named
  have hlocks := B.notSynchronized
  have hin : meth.name = "<init>" := (name_of_methodNamed B.named B.method).1
  subst hsz
  have hD0 : va_D (fun _ => True) [(h0, .inr (5, [.null, .int 0]))] := ⟨fun i j p q hi hj _ => by have h1 := (List.getElem?_eq_some_iff.mp hi).1; have h2 := (List.getElem?_eq_some_iff.mp hj).1; simp only [List.length_cons, List.length_nil] at h1 h2; omega, fun _ _ _ => trivial⟩
  have hD := hD0.self (sz := s.heap.size)
  generalize hAe : va_A [(h0, .inr (5, [.null, .int 0]))] s.heap.size = A at hD ⊢
  have hA : ∀ q : Nat, s.heap.size ≤ q → A q := fun q h => by rw [← hAe]; exact Or.inr h
  have hS : va_S A s.heap s.heap [] := va_S.rf
  have hP : va_P D vwCl [(h0, .inr (5, [.null, .int 0]))] s.heap := hP
  have hl := lv_entry ([.ref h0]) (n := 1) (Nat.le_of_ble_eq_true rfl)
  rw [lg_entry_eq]
  generalize (lg_sl ([.ref h0]) ++ List.replicate (1 - (lg_sl ([.ref h0])).length) Slot.unset).toArray = ls at hl ⊢
  have hl : lv_has ls 1 [(0, .ref h0)] := hl
  refine lv_aload_n hx hb dX5_init_0 rfl (lv_at hl 0 rfl) ?_
  refine W.objInit hx hb hown (hts _ lk_X5_init_o1) (hts _ lk_X5_init_o2) (hts _ lk_X5_init_o3) rfl (by rw [hml]; exact hl.1) rfl dX5_init_1 (Nat.le_of_ble_eq_true rfl) (Nat.le_of_ble_eq_true rfl) ?_
  refine W.eq (g2 := F0 m 4 ls []) rfl ?_
  refine lv_aload_n hx hb dX5_init_4 rfl (lv_at hl 0 rfl) ?_
  refine lv_sipush (v := 201) hx hb dX5_init_5 (by decide) ?_
  refine k_newa (atype := .int) (t := 0) hx hb (hts _ lk_X5_init_aint) rfl rfl hK rfl hP hD hS hA (N' := 201) (by decide) (by decide) (by decide) (Nat.le_of_ble_eq_true rfl) (Nat.le_of_ble_eq_true rfl) dX5_init_8 (fun q_1 H hP hD hS => ?_)
  have hP : va_P D vwCl ([(h0, .inr (5, [.null, .int 0]))] ++ [(q_1, .inl (ac 0, 201, .inl (fun _ => 0)))]) H := hP
  have hD : va_D A ([(h0, .inr (5, [.null, .int 0]))] ++ [(q_1, .inl (ac 0, 201, .inl (fun _ => 0)))]) := hD
  refine va_putF (D := D) (ci := 5) (v := .ref q_1) (ty := .array .int) (C := RX5) (T := TX5) (N := 2) hx hb hts in_X5_init_X5 tyX5 tyX5_ok nmX5 hown hK hP hD hS 0 rfl rfl 0 (by decide) (hts _ lk_X5_init_f9) (fun _ h9 => h9) rfl hin rfl (by decide +kernel) rfl rfl (Nat.le_of_ble_eq_true rfl) dX5_init_10 (fun H locs hP hD hS => ?_)
  have hP : va_P D vwCl ([(h0, .inr (5, [.ref q_1, .int 0]))] ++ [(q_1, .inl (ac 0, 201, .inl (fun _ => 0)))]) H := hP
  have hD : va_D A ([(h0, .inr (5, [.ref q_1, .int 0]))] ++ [(q_1, .inl (ac 0, 201, .inl (fun _ => 0)))]) := hD
  refine W.widen (k := 1) (n := 201) (Nat.le_of_ble_eq_true rfl) (Nat.le_of_ble_eq_true rfl) ?_
  exact W.vret hx hb hr (fun t ht hW => ⟨⟨(fun _ j => [q_1].getD j 0), rfl, trivial, by rw [ht]; exact hP, hD⟩, hS.F ht⟩) hS.2.2 dX5_init_13
theorem in_X2_init_X2 : ∀ w ∈ u_ws RX2 TX2 2, w ∈ wsX2_init := by decide +kernel
theorem lk_X2_init_achar : Cond.arrayClass .char ∈ wsX2_init := by decide +kernel
theorem lk_X2_init_f9 : Cond.fieldLink RX2 9 "PoisonPiles$Pad" "characters" "[C" ∈ wsX2_init := by decide +kernel
theorem lk_X2_init_o1 : Cond.methodLink RX2 3 objectInit ∈ wsX2_init := by decide +kernel
theorem lk_X2_init_o2 : Cond.instanceMethod objectInit ∈ wsX2_init := by decide +kernel
theorem lk_X2_init_o3 : Cond.code objectInit ⟨#[0xb1]⟩ 1 none ∈ wsX2_init := by decide +kernel
set_option maxHeartbeats 4000000 in
set_option maxRecDepth 100000 in
theorem mX2_init (l : Launch) (D : va_G) (ac : Nat → ClassId) (h0 sz : Nat) : Cn l yX2_init wsX2_init ({ frames := 1, cells := 1, slots := 80, locals := 12 }) D ac h0 2 [.null, .int 0] (fun u => wPad ac h0 (u 0)) 1 80 sz := by
  refine Met.ofW (cc := cX2_init) (maxL := 1) (ret := none) (by decide +kernel) rfl ?_
  intro p e s m args below meth c s₁ B hml hv
  obtain ⟨rfl, hsz, hP, hKA⟩ := hv
  have hK := hKA.1
  have hN := hKA.2.1
  have hAO := hKA.2.2
  have hx := B.exec
  have hb := B.bytes
  have hr := B.returns
  have hts := atoms_spec (ws := wsX2_init) B.pre
  have hown : s.vm.findClass RX2 = some m.cls := findClass_of_methodNamed B.named
  have hlocks := B.notSynchronized
  have hin : meth.name = "<init>" := (name_of_methodNamed B.named B.method).1
  subst hsz
  have hD0 : va_D (fun _ => True) [(h0, .inr (2, [.null, .int 0]))] := ⟨fun i j p q hi hj _ => by have h1 := (List.getElem?_eq_some_iff.mp hi).1; have h2 := (List.getElem?_eq_some_iff.mp hj).1; simp only [List.length_cons, List.length_nil] at h1 h2; omega, fun _ _ _ => trivial⟩
  have hD := hD0.self (sz := s.heap.size)
  generalize hAe : va_A [(h0, .inr (2, [.null, .int 0]))] s.heap.size = A at hD ⊢
  have hA : ∀ q : Nat, s.heap.size ≤ q → A q := fun q h => by rw [← hAe]; exact Or.inr h
  have hS : va_S A s.heap s.heap [] := va_S.rf
  have hP : va_P D vwCl [(h0, .inr (2, [.null, .int 0]))] s.heap := hP
  have hl := lv_entry ([.ref h0]) (n := 1) (Nat.le_of_ble_eq_true rfl)
  rw [lg_entry_eq]
  generalize (lg_sl ([.ref h0]) ++ List.replicate (1 - (lg_sl ([.ref h0])).length) Slot.unset).toArray = ls at hl ⊢
  have hl : lv_has ls 1 [(0, .ref h0)] := hl
  refine lv_aload_n hx hb dX2_init_0 rfl (lv_at hl 0 rfl) ?_
  refine W.objInit hx hb hown (hts _ lk_X2_init_o1) (hts _ lk_X2_init_o2) (hts _ lk_X2_init_o3) rfl (by rw [hml]; exact hl.1) rfl dX2_init_1 (Nat.le_of_ble_eq_true rfl) (Nat.le_of_ble_eq_true rfl) ?_
  refine W.eq (g2 := F0 m 4 ls []) rfl ?_
  refine lv_aload_n hx hb dX2_init_4 rfl (lv_at hl 0 rfl) ?_
  refine lv_bipush (v := 80) hx hb dX2_init_5 (by decide) ?_
  refine k_newa (atype := .char) (t := 1) hx hb (hts _ lk_X2_init_achar) rfl rfl hK rfl hP hD hS hA (N' := 80) (by decide) (by decide) (by decide) (Nat.le_of_ble_eq_true rfl) (Nat.le_of_ble_eq_true rfl) dX2_init_7 (fun q_1 H hP hD hS => ?_)
  have hP : va_P D vwCl ([(h0, .inr (2, [.null, .int 0]))] ++ [(q_1, .inl (ac 1, 80, .inl (fun _ => 0)))]) H := hP
  have hD : va_D A ([(h0, .inr (2, [.null, .int 0]))] ++ [(q_1, .inl (ac 1, 80, .inl (fun _ => 0)))]) := hD
  refine va_putF (D := D) (ci := 2) (v := .ref q_1) (ty := .array .char) (C := RX2) (T := TX2) (N := 2) hx hb hts in_X2_init_X2 tyX2 tyX2_ok nmX2 hown hK hP hD hS 0 rfl rfl 0 (by decide) (hts _ lk_X2_init_f9) (fun _ h9 => h9) rfl hin rfl (by decide +kernel) rfl rfl (Nat.le_of_ble_eq_true rfl) dX2_init_9 (fun H locs hP hD hS => ?_)
  have hP : va_P D vwCl ([(h0, .inr (2, [.ref q_1, .int 0]))] ++ [(q_1, .inl (ac 1, 80, .inl (fun _ => 0)))]) H := hP
  have hD : va_D A ([(h0, .inr (2, [.ref q_1, .int 0]))] ++ [(q_1, .inl (ac 1, 80, .inl (fun _ => 0)))]) := hD
  refine W.widen (k := 1) (n := 80) (Nat.le_of_ble_eq_true rfl) (Nat.le_of_ble_eq_true rfl) ?_
  exact W.vret hx hb hr (fun t ht hW => ⟨⟨(fun _ j => [q_1].getD j 0), rfl, trivial, by rw [ht]; exact hP, hD⟩, hS.F ht⟩) hS.2.2 dX2_init_12
