/-! THE CLAIM OUT OF ONE WALK OF THE LAW'S BODY. Your part is whole_start (and what it stands on); all else here is the same for every law, but numbers. -/
def R_law : String := "PoisonPilesLaw"
def lw_P (b : Addr) (xs : List Int32) (args : Array Value) (s : State) : Prop := args = #[.ref b] ∧ s.IntsAt b xs ∧ xs.length ≤ 2048 ∧ (Jvm.Cond.and given_1 narrow_1).before args s = true
/-- what a walk over the start with the record d0 says of its end, said of the start itself -/
theorem lw_closed {s t : State} {o : Outcome} {d0 : Drawn} {L : List Loc} {k n : Nat} (hd0 : s.drawn.sameBut d0 lw_cs) (hv : ∃ v, o = .returned v) (hW : (s.setDrawn d0).WarmedH t.vm) (hs : (s.setDrawn d0).sameButNew ({ t with vm := s.vm } : State) L k n) : State.butDraws s t lw_cs (fun t1 => Framed s o t1 L k n) := by
  have h2 : t.drawn = d0 := congrArg State.drawn hs.1
  refine ⟨⟨hv, hW, State.sameButNew.setDrawn hs s.drawn⟩, ?_, by decide⟩
  rw [h2]
  exact hd0
def lw_Q (_ : Array Value) (s : State) (o : Outcome) (t : State) : Prop := o = .returned (some (.int 1)) ∧ State.butDraws s t lw_cs (fun t1 => Framed s o t1 [] 600000 7302250)
def lw_Z (below : List Frame) (a : Array Value) (s : State) : State → Prop := fun t => ∃ o, t.status = .running ∧ Ended t below o ∧ lw_Q a s o t
/-- the law's own end, with 1 on the stack, nothing written that was there before, its room as the claim has it; d0: the record of draws at this point (at the entry s.drawn: begin with 'refine W.base ?_' and 'have hd0 := Drawn.sameBut.refl s.drawn lw_cs') -/
theorem lw_ret {p : Program} {l : Launch} {e : Env} {s : State} {m : MethodId} {below : List Frame} {meth : Method} {c : Code} {b : Nat} {d0 : Drawn} (hd0 : s.drawn.sameBut d0 lw_cs) (hx : p.tables.exec = Jvm.exec) (hb : c.code = code) (hr : meth.sig.returnType = ret) (hlocks : meth.locks = false) {pc : Nat} {H : Heap} {ls : Array Slot} (hdg : decode code pc = .ok (.ireturn, 1)) : W p l e room_1 (s.setDrawn d0) m #[Value.ref b] below meth c H [] 600000 7302250 (lw_Z below #[Value.ref b] s) (F0 m pc ls [.int 1]) := by
  intro T hT X
  obtain ⟨fs, hret, hrun, hended, hW, hframe⟩ := X.leave (v := some (.int 1)) (hlocks := hlocks) (fun h => by rw [hr] at h; cases h)
  have hmeth' : T.vm.method? m = some meth := X.method'
  refine ⟨T.setFrames fs, ?_, .returned (some (.int 1)), hrun, hended, rfl, lw_closed hd0 ⟨_, rfl⟩ hW hframe⟩
  jvm_step X.here [X.here.top, hx, hb, hdg, hmeth', hr, ret, narrow_b1]
  (try refine ⟨rfl, ?_⟩); (try refine ⟨rfl, ?_⟩)
  first | (intro acts; rw [hret _ acts rfl rfl rfl]) | rw [hret _ _ rfl rfl rfl]
  exact Steps.refl _
/-- what holds at the law's entry: the machine, the code, the tables' words (any of lw_tbl by 'hts w (by decide +kernel)'), the script of L ints xs at the cell b, what the Statement gives of the start (any of its parts by flat_of_before) -/
def lw_At (p : Program) (s : State) (m : MethodId) (meth : Method) (c : Code) (b L : Nat) (xs : Nat → Int32) : Prop :=
  p.tables.exec = Jvm.exec ∧ c.code = code ∧ meth.sig.returnType = ret ∧ c.maxLocals = 4 ∧ s.vm.findClass R_law = some m.cls ∧ (∀ w ∈ lw_tbl, w.before #[Value.ref b] s = true) ∧ va_X b L xs s s.heap ∧ b < s.heap.size ∧ meth.locks = false ∧ (Jvm.Cond.and given_1 narrow_1).before #[Value.ref b] s = true
theorem lkL_c89 : Cond.constantLong RL 89 4294967295 ∈ lw_tbl := by decide +kernel
theorem law_le {N i : Nat} (hN : N ≤ 2048) (hi : i ≤ 3000) (h : ¬ nI N - 4 < nI i) : i + 4 ≤ N := by
  rw [Int32.lt_iff_toInt_lt, Int32.toInt_sub, nI_toInt (by omega), nI_toInt (by omega)] at h
  have e4 : (4 : Int32).toInt = 4 := by decide
  rw [e4] at h
  have : ((N : Int) - 4).bmod (2 ^ 32) = (N : Int) - 4 := by
    rw [Int.bmod_eq_of_le] <;> omega
  omega
set_option maxHeartbeats 8000000 in
set_option maxRecDepth 100000 in
theorem law_loop {p : Program} {l : Launch} {e : Env} {s : State} {m : MethodId} {below : List Frame} {meth : Method} {c : Code} {D : va_G} {L : Nat → Nat} {ac : Nat → ClassId} {b N : Nat} {xs : Nat → Int32} (hN2 : N ≤ 2048) (C0 : lw_At p s m meth c b N xs) (hLL : LL L) (hA : ∀ q, fr L q → s.heap.size ≤ q) (hK : va_K D vwCl (tys ac) s) (hN : NX s) (Inv : XM → Prop)
  (ops_set : ∀ (a1 : Int32) (a2 : Int32) (X : XM), Inv X → ∃ (r : Int32) (X1 X2 : XM), fX8_set a1 a2 X = some (r, X1) ∧ fX9_set a1 a2 X1 = some (r, X2) ∧ Inv X2)
  (ops_pile : ∀ (a1 : Int32) (a2 : Int32) (a3 : Int32) (X : XM), Inv X → ∃ (r : Int32) (X1 X2 : XM), fX8_pile a1 a2 a3 X = some (r, X1) ∧ fX9_pile a1 a2 a3 X1 = some (r, X2) ∧ Inv X2)
  (ops_passes : ∀ (a1 : Int32) (a2 : Int32) (X : XM), Inv X → ∃ (r : Int32) (X1 X2 : XM), fX8_passes a1 a2 X = some (r, X1) ∧ fX9_passes a1 a2 X1 = some (r, X2) ∧ Inv X2)
  (ops_begin : ∀ (X : XM), Inv X → ∃ (r : Int32) (X1 X2 : XM), fX8_begin X = some (r, X1) ∧ fX9_begin X1 = some (r, X2) ∧ Inv X2)
  (ops_take : ∀ (a1 : Int32) (a2 : Int32) (X : XM), Inv X → ∃ (r : Int32) (X1 X2 : XM), fX8_take a1 a2 X = some (r, X1) ∧ fX9_take a1 a2 X1 = some (r, X2) ∧ Inv X2)
  (ops_pass : ∀ (X : XM), Inv X → ∃ (r : Int32) (X1 X2 : XM), fX8_pass X = some (r, X1) ∧ fX9_pass X1 = some (r, X2) ∧ Inv X2)
  (ops_play : ∀ (a1 : Int32) (X : XM), Inv X → ∃ (r : Int32) (X1 X2 : XM), fX8_play a1 X = some (r, X1) ∧ fX9_play a1 X1 = some (r, X2) ∧ Inv X2)
  (ops_ofPile : ∀ (a1 : Int32) (a2 : Int32) (X : XM), Inv X → ∃ (r : Int32) (X1 X2 : XM), fX8_ofPile a1 a2 X = some (r, X1) ∧ fX9_ofPile a1 a2 X1 = some (r, X2) ∧ Inv X2)
  (ops_ofPlayer : ∀ (a1 : Int32) (a2 : Int32) (X : XM), Inv X → ∃ (r : Int32) (X1 X2 : XM), fX8_ofPlayer a1 a2 X = some (r, X1) ∧ fX9_ofPlayer a1 a2 X1 = some (r, X2) ∧ Inv X2)
  (ops_count : ∀ (a1 : Int32) (X : XM), Inv X → ∃ (r : Int32) (X1 X2 : XM), fX8_count a1 X = some (r, X1) ∧ fX9_count a1 X1 = some (r, X2) ∧ Inv X2)
  (ops_moves : ∀ (X : XM), Inv X → ∃ (r : Int32) (X1 X2 : XM), fX8_moves X = some (r, X1) ∧ fX9_moves X1 = some (r, X2) ∧ Inv X2)
  (ops_won : ∀ (X : XM), Inv X → ∃ (r : Int32) (X1 X2 : XM), fX8_won X = some (r, X1) ∧ fX9_won X1 = some (r, X2) ∧ Inv X2)
  (ops_winning : ∀ (X : XM), Inv X → ∃ (r : Int32) (X1 X2 : XM), fX8_winning X = some (r, X1) ∧ fX9_winning X1 = some (r, X2) ∧ Inv X2)
  (ops_value : ∀ (X : XM), Inv X → ∃ (r : Int32) (X1 X2 : XM), fX8_value X = some (r, X1) ∧ fX9_value X1 = some (r, X2) ∧ Inv X2)
  (ops_best : ∀ (X : XM), Inv X → ∃ (r : Int32) (X1 X2 : XM), fX8_best X = some (r, X1) ∧ fX9_best X1 = some (r, X2) ∧ Inv X2)
  (ops_grundy : ∀ (a1 : Int32) (X : XM), Inv X → ∃ (r : Int32) (X1 X2 : XM), fX8_grundy a1 X = some (r, X1) ∧ fX9_grundy a1 X1 = some (r, X2) ∧ Inv X2)
  (ops_period : ∀ (a1 : Int32) (X : XM), Inv X → ∃ (r : Int32) (X1 X2 : XM), fX8_period a1 X = some (r, X1) ∧ fX9_period a1 X1 = some (r, X2) ∧ Inv X2)
  (ops_drawn : ∀ (a1 : Int32) (a2 : Int32) (X : XM), Inv X → ∃ (r : Int32) (X1 X2 : XM), fX8_drawn a1 a2 X = some (r, X1) ∧ fX9_drawn a1 a2 X1 = some (r, X2) ∧ Inv X2)
  (ops_put : ∀ (a1 : Int64) (X : XM), Inv X → ∃ (r : Int32) (X1 X2 : XM), fX8_put a1 X = some (r, X1) ∧ fX9_put a1 X1 = some (r, X2) ∧ Inv X2)
  (ops_wipe : ∀ (X : XM), Inv X → ∃ (r : Int32) (X1 X2 : XM), fX8_wipe X = some (r, X1) ∧ fX9_wipe X1 = some (r, X2) ∧ Inv X2)
  (ops_fault : ∀ (X : XM), Inv X → ∃ (r : Int32) (X1 X2 : XM), fX8_fault X = some (r, X1) ∧ fX9_fault X1 = some (r, X2) ∧ Inv X2)
  (ops_carryOut : ∀ (X : XM), Inv X → ∃ (r : Int32) (X1 X2 : XM), fX8_carryOut X = some (r, X1) ∧ fX9_carryOut X1 = some (r, X2) ∧ Inv X2)
  (ops_undo : ∀ (X : XM), Inv X → ∃ (r : Int32) (X1 X2 : XM), fX8_undo X = some (r, X1) ∧ fX9_undo X1 = some (r, X2) ∧ Inv X2)
  (ops_save : ∀ (a1 : Int32) (X : XM), Inv X → ∃ (r : Int32) (X1 X2 : XM), fX8_save a1 X = some (r, X1) ∧ fX9_save a1 X1 = some (r, X2) ∧ Inv X2)
  (ops_restore : ∀ (a1 : Int32) (X : XM), Inv X → ∃ (r : Int32) (X1 X2 : XM), fX8_restore a1 X = some (r, X1) ∧ fX9_restore a1 X1 = some (r, X2) ∧ Inv X2) :
    ∀ (n i : Nat), N + 1 ≤ i + n → i ≤ 2052 → ∀ (X : XM), Inv X → ∀ (H : Heap) (locs : List Loc), Oh D L ac X (fun q : Nat => s.heap.size ≤ q) s.heap H locs → ∀ (ls : Array Slot), lv_has ls 4 [(0, .ref b), (1, .ref (L 0)), (2, .ref (L 15)), (3, .int (nI i))] → W p l e room_1 s m #[Value.ref b] below meth c H locs 114 94780 (lw_Z below #[Value.ref b] s) (F0 m 18 ls []) := by
  obtain ⟨hx, hb, hr, hml, hown, hts, hX, hbl, hlocks, hgv⟩ := id C0
  have hbA : ¬ (fun q : Nat => s.heap.size ≤ q) b := Nat.not_le.mpr hbl
  have fin : ∀ (H : Heap) (locs : List Loc) (X : XM), Oh D L ac X (fun q : Nat => s.heap.size ≤ q) s.heap H locs → ∀ (ls : Array Slot), W p l e room_1 s m #[Value.ref b] below meth c H locs 114 94780 (lw_Z below #[Value.ref b] s) (F0 m 729 ls []) := by
    intro H locs X hO ls
    refine lv_iconst (v := 1) hx hb dL_law_729 (by decide) ?_
    refine va_forget (fun q hq => hO.2.2.2.2 q hq) ?_
    refine W.widen (k := 600000) (n := 7302250) (Nat.le_of_ble_eq_true rfl) (Nat.le_of_ble_eq_true rfl) ?_
    exact lw_ret (d0 := s.drawn) (Drawn.sameBut.refl s.drawn lw_cs) hx hb hr hlocks dL_law_730
  intro n
  induction n with
  | zero =>
    intro i h1 h2 X hI H locs hO ls hl
    refine lv_iload_n hx hb dL_law_18 rfl (lv_at hl 3 rfl) ?_
    refine lv_aload_n hx hb dL_law_19 rfl (lv_at hl 0 rfl) ?_
    refine va_slen hx hb hX hbl hbA hO.2.2 dL_law_20 ?_
    refine lv_iconst (v := 4) hx hb dL_law_21 (by decide) ?_
    refine lv_isub hx hb dL_law_22 ?_
    refine lv_icmp_gt (tgt := 729) hx hb dL_law_23 (by decide) (fun _ => fin H locs X hO ls) (fun h => absurd (law_le hN2 (by omega) h) (by omega))
  | succ n ih =>
    intro i h1 h2 X hI H locs hO ls hl
    have hts := hts
    refine lv_iload_n hx hb dL_law_18 rfl (lv_at hl 3 rfl) ?_
    refine lv_aload_n hx hb dL_law_19 rfl (lv_at hl 0 rfl) ?_
    refine va_slen hx hb hX hbl hbA hO.2.2 dL_law_20 ?_
    refine lv_iconst (v := 4) hx hb dL_law_21 (by decide) ?_
    refine lv_isub hx hb dL_law_22 ?_
    refine lv_icmp_gt (tgt := 729) hx hb dL_law_23 (by decide) (fun _ => fin H locs X hO ls) (fun h => ?_)
    have h4 : i + 4 ≤ N := law_le hN2 (by omega) h
    have back : ∀ (X : XM), Inv X → ∀ (H : Heap) (locs : List Loc), Oh D L ac X (fun q : Nat => s.heap.size ≤ q) s.heap H locs → ∀ (ls : Array Slot), lv_has ls 4 [(0, .ref b), (1, .ref (L 0)), (2, .ref (L 15)), (3, .int (nI i))] → W p l e room_1 s m #[Value.ref b] below meth c H locs 114 94780 (lw_Z below #[Value.ref b] s) (F0 m 723 ls []) := by
      intro X hI H locs hO ls hl
      refine lv_iinc (v := nI (i + 4)) (lv' := [(3, .int (nI (i + 4))), (0, .ref b), (1, .ref (L 0)), (2, .ref (L 15))]) hx hb dL_law_723 hl (k := 3) rfl (nI_add i 4) (by decide) rfl (fun ls hl => ?_)
      refine lv_goto (tgt := 18) hx hb dL_law_726 (by decide) ?_
      exact ih (i + 4) (by omega) (by omega) X hI H locs hO ls (lv_sub hl [1, 2, 3, 0] rfl)
    refine lv_aload_n hx hb dL_law_26 rfl (lv_at hl 0 rfl) ?_
    refine lv_iload_n hx hb dL_law_27 rfl (lv_at hl 3 rfl) ?_
    refine va_sld hx hb hX hbl hbA hO.2.2 (vp_in_nI (by omega) (by omega)) dL_law_28 ?_
    refine lv_bipush (v := 31) hx hb dL_law_29 (by decide) ?_
    refine lv_iand hx hb dL_law_31 ?_
    by_cases c_0 : xs (nI i).toNatClampNeg &&& 31 = 0
    · refine k_tabIn (tgt := 148) (off := 116) hx hb c_0 dL_law_32 (by decide) (by decide) rfl (by decide) ?_
      refine lv_aload_n hx hb dL_law_148 rfl (lv_at hl 1 rfl) ?_
      refine lv_aload_n hx hb dL_law_149 rfl (lv_at hl 0 rfl) ?_
      refine lv_iload_n hx hb dL_law_150 rfl (lv_at hl 3 rfl) ?_
      refine lv_iconst (v := 1) hx hb dL_law_151 (by decide) ?_
      refine lv_iadd hx hb dL_law_152 ?_
      refine lv_tope (z := nI (i + 1)) (nI_add i 1) ?_
      refine va_sld hx hb hX hbl hbA hO.2.2 (vp_in_nI (by omega) (by omega)) dL_law_153 ?_
      refine lv_aload_n hx hb dL_law_154 rfl (lv_at hl 0 rfl) ?_
      refine lv_iload_n hx hb dL_law_155 rfl (lv_at hl 3 rfl) ?_
      refine lv_iconst (v := 2) hx hb dL_law_156 (by decide) ?_
      refine lv_iadd hx hb dL_law_157 ?_
      refine lv_tope (z := nI (i + 2)) (nI_add i 2) ?_
      refine va_sld hx hb hX hbl hbA hO.2.2 (vp_in_nI (by omega) (by omega)) dL_law_158 ?_
      obtain ⟨r, X1, X2, hc1, hc2, hI2⟩ := ops_set (xs (nI (i + 1)).toNatClampNeg) (xs (nI (i + 2)).toNatClampNeg) X hI
      refine k_ai (va_runV (As := [.int (xs (nI (i + 1)).toNatClampNeg), .int (xs (nI (i + 2)).toNatClampNeg)]) (rest := []) ⟨hx, hb, hml, hown, hts⟩ (mX8_set l D L ac hLL X (xs (nI (i + 1)).toNatClampNeg) (xs (nI (i + 2)).toNatClampNeg) _ _ hc1) (cwV 2 hts gL_X8_set rfl rfl rfl (by decide +kernel) ⟨Nat.le_of_ble_eq_true rfl, Nat.le_of_ble_eq_true rfl⟩) (k_pv (j := 0) hK hN hO (by decide) rfl rfl _) rfl rfl hl.1 rfl (lv_room (Nat.le_of_ble_eq_true rfl)) dL_law_159 ⟨Nat.le_of_ble_eq_true rfl, Nat.le_of_ble_eq_true rfl⟩) hA hO (fun H locs hO => ?_)
      refine lv_aload_n hx hb dL_law_162 rfl (lv_at hl 2 rfl) ?_
      refine lv_aload_n hx hb dL_law_163 rfl (lv_at hl 0 rfl) ?_
      refine lv_iload_n hx hb dL_law_164 rfl (lv_at hl 3 rfl) ?_
      refine lv_iconst (v := 1) hx hb dL_law_165 (by decide) ?_
      refine lv_iadd hx hb dL_law_166 ?_
      refine lv_tope (z := nI (i + 1)) (nI_add i 1) ?_
      refine va_sld hx hb hX hbl hbA hO.2.2 (vp_in_nI (by omega) (by omega)) dL_law_167 ?_
      refine lv_aload_n hx hb dL_law_168 rfl (lv_at hl 0 rfl) ?_
      refine lv_iload_n hx hb dL_law_169 rfl (lv_at hl 3 rfl) ?_
      refine lv_iconst (v := 2) hx hb dL_law_170 (by decide) ?_
      refine lv_iadd hx hb dL_law_171 ?_
      refine lv_tope (z := nI (i + 2)) (nI_add i 2) ?_
      refine va_sld hx hb hX hbl hbA hO.2.2 (vp_in_nI (by omega) (by omega)) dL_law_172 ?_
      refine k_ai (va_runV (As := [.int (xs (nI (i + 1)).toNatClampNeg), .int (xs (nI (i + 2)).toNatClampNeg)]) (rest := [.int r]) ⟨hx, hb, hml, hown, hts⟩ (mX9_set l D L ac hLL X1 (xs (nI (i + 1)).toNatClampNeg) (xs (nI (i + 2)).toNatClampNeg) _ _ hc2) (cwV 2 hts gL_X9_set rfl rfl rfl (by decide +kernel) ⟨Nat.le_of_ble_eq_true rfl, Nat.le_of_ble_eq_true rfl⟩) (k_pv (j := 15) hK hN hO (by decide) rfl rfl _) rfl rfl hl.1 rfl (lv_room (Nat.le_of_ble_eq_true rfl)) dL_law_173 ⟨Nat.le_of_ble_eq_true rfl, Nat.le_of_ble_eq_true rfl⟩) hA hO (fun H locs hO => ?_)
      refine lv_icmp_eq (tgt := 723) hx hb dL_law_176 (by decide) (fun _ => ?_) (fun h => absurd rfl h)
      exact back X2 hI2 H locs hO ls hl
    · by_cases c_1 : xs (nI i).toNatClampNeg &&& 31 = 1
      · refine k_tabIn (tgt := 181) (off := 149) hx hb c_1 dL_law_32 (by decide) (by decide) rfl (by decide) ?_
        refine lv_aload_n hx hb dL_law_181 rfl (lv_at hl 1 rfl) ?_
        refine lv_aload_n hx hb dL_law_182 rfl (lv_at hl 0 rfl) ?_
        refine lv_iload_n hx hb dL_law_183 rfl (lv_at hl 3 rfl) ?_
        refine lv_iconst (v := 1) hx hb dL_law_184 (by decide) ?_
        refine lv_iadd hx hb dL_law_185 ?_
        refine lv_tope (z := nI (i + 1)) (nI_add i 1) ?_
        refine va_sld hx hb hX hbl hbA hO.2.2 (vp_in_nI (by omega) (by omega)) dL_law_186 ?_
        refine lv_aload_n hx hb dL_law_187 rfl (lv_at hl 0 rfl) ?_
        refine lv_iload_n hx hb dL_law_188 rfl (lv_at hl 3 rfl) ?_
        refine lv_iconst (v := 2) hx hb dL_law_189 (by decide) ?_
        refine lv_iadd hx hb dL_law_190 ?_
        refine lv_tope (z := nI (i + 2)) (nI_add i 2) ?_
        refine va_sld hx hb hX hbl hbA hO.2.2 (vp_in_nI (by omega) (by omega)) dL_law_191 ?_
        refine lv_aload_n hx hb dL_law_192 rfl (lv_at hl 0 rfl) ?_
        refine lv_iload_n hx hb dL_law_193 rfl (lv_at hl 3 rfl) ?_
        refine lv_iconst (v := 3) hx hb dL_law_194 (by decide) ?_
        refine lv_iadd hx hb dL_law_195 ?_
        refine lv_tope (z := nI (i + 3)) (nI_add i 3) ?_
        refine va_sld hx hb hX hbl hbA hO.2.2 (vp_in_nI (by omega) (by omega)) dL_law_196 ?_
        obtain ⟨r, X1, X2, hc1, hc2, hI2⟩ := ops_pile (xs (nI (i + 1)).toNatClampNeg) (xs (nI (i + 2)).toNatClampNeg) (xs (nI (i + 3)).toNatClampNeg) X hI
        refine k_ai (va_runV (As := [.int (xs (nI (i + 1)).toNatClampNeg), .int (xs (nI (i + 2)).toNatClampNeg), .int (xs (nI (i + 3)).toNatClampNeg)]) (rest := []) ⟨hx, hb, hml, hown, hts⟩ (mX8_pile l D L ac hLL X (xs (nI (i + 1)).toNatClampNeg) (xs (nI (i + 2)).toNatClampNeg) (xs (nI (i + 3)).toNatClampNeg) _ _ hc1) (cwV 3 hts gL_X8_pile rfl rfl rfl (by decide +kernel) ⟨Nat.le_of_ble_eq_true rfl, Nat.le_of_ble_eq_true rfl⟩) (k_pv (j := 0) hK hN hO (by decide) rfl rfl _) rfl rfl hl.1 rfl (lv_room (Nat.le_of_ble_eq_true rfl)) dL_law_197 ⟨Nat.le_of_ble_eq_true rfl, Nat.le_of_ble_eq_true rfl⟩) hA hO (fun H locs hO => ?_)
        refine lv_aload_n hx hb dL_law_200 rfl (lv_at hl 2 rfl) ?_
        refine lv_aload_n hx hb dL_law_201 rfl (lv_at hl 0 rfl) ?_
        refine lv_iload_n hx hb dL_law_202 rfl (lv_at hl 3 rfl) ?_
        refine lv_iconst (v := 1) hx hb dL_law_203 (by decide) ?_
        refine lv_iadd hx hb dL_law_204 ?_
        refine lv_tope (z := nI (i + 1)) (nI_add i 1) ?_
        refine va_sld hx hb hX hbl hbA hO.2.2 (vp_in_nI (by omega) (by omega)) dL_law_205 ?_
        refine lv_aload_n hx hb dL_law_206 rfl (lv_at hl 0 rfl) ?_
        refine lv_iload_n hx hb dL_law_207 rfl (lv_at hl 3 rfl) ?_
        refine lv_iconst (v := 2) hx hb dL_law_208 (by decide) ?_
        refine lv_iadd hx hb dL_law_209 ?_
        refine lv_tope (z := nI (i + 2)) (nI_add i 2) ?_
        refine va_sld hx hb hX hbl hbA hO.2.2 (vp_in_nI (by omega) (by omega)) dL_law_210 ?_
        refine lv_aload_n hx hb dL_law_211 rfl (lv_at hl 0 rfl) ?_
        refine lv_iload_n hx hb dL_law_212 rfl (lv_at hl 3 rfl) ?_
        refine lv_iconst (v := 3) hx hb dL_law_213 (by decide) ?_
        refine lv_iadd hx hb dL_law_214 ?_
        refine lv_tope (z := nI (i + 3)) (nI_add i 3) ?_
        refine va_sld hx hb hX hbl hbA hO.2.2 (vp_in_nI (by omega) (by omega)) dL_law_215 ?_
        refine k_ai (va_runV (As := [.int (xs (nI (i + 1)).toNatClampNeg), .int (xs (nI (i + 2)).toNatClampNeg), .int (xs (nI (i + 3)).toNatClampNeg)]) (rest := [.int r]) ⟨hx, hb, hml, hown, hts⟩ (mX9_pile l D L ac hLL X1 (xs (nI (i + 1)).toNatClampNeg) (xs (nI (i + 2)).toNatClampNeg) (xs (nI (i + 3)).toNatClampNeg) _ _ hc2) (cwV 3 hts gL_X9_pile rfl rfl rfl (by decide +kernel) ⟨Nat.le_of_ble_eq_true rfl, Nat.le_of_ble_eq_true rfl⟩) (k_pv (j := 15) hK hN hO (by decide) rfl rfl _) rfl rfl hl.1 rfl (lv_room (Nat.le_of_ble_eq_true rfl)) dL_law_216 ⟨Nat.le_of_ble_eq_true rfl, Nat.le_of_ble_eq_true rfl⟩) hA hO (fun H locs hO => ?_)
        refine lv_icmp_eq (tgt := 723) hx hb dL_law_219 (by decide) (fun _ => ?_) (fun h => absurd rfl h)
        exact back X2 hI2 H locs hO ls hl
      · by_cases c_2 : xs (nI i).toNatClampNeg &&& 31 = 2
        · refine k_tabIn (tgt := 224) (off := 192) hx hb c_2 dL_law_32 (by decide) (by decide) rfl (by decide) ?_
          refine lv_aload_n hx hb dL_law_224 rfl (lv_at hl 1 rfl) ?_
          refine lv_aload_n hx hb dL_law_225 rfl (lv_at hl 0 rfl) ?_
          refine lv_iload_n hx hb dL_law_226 rfl (lv_at hl 3 rfl) ?_
          refine lv_iconst (v := 1) hx hb dL_law_227 (by decide) ?_
          refine lv_iadd hx hb dL_law_228 ?_
          refine lv_tope (z := nI (i + 1)) (nI_add i 1) ?_
          refine va_sld hx hb hX hbl hbA hO.2.2 (vp_in_nI (by omega) (by omega)) dL_law_229 ?_
          refine lv_aload_n hx hb dL_law_230 rfl (lv_at hl 0 rfl) ?_
          refine lv_iload_n hx hb dL_law_231 rfl (lv_at hl 3 rfl) ?_
          refine lv_iconst (v := 2) hx hb dL_law_232 (by decide) ?_
          refine lv_iadd hx hb dL_law_233 ?_
          refine lv_tope (z := nI (i + 2)) (nI_add i 2) ?_
          refine va_sld hx hb hX hbl hbA hO.2.2 (vp_in_nI (by omega) (by omega)) dL_law_234 ?_
          obtain ⟨r, X1, X2, hc1, hc2, hI2⟩ := ops_passes (xs (nI (i + 1)).toNatClampNeg) (xs (nI (i + 2)).toNatClampNeg) X hI
          refine k_ai (va_runV (As := [.int (xs (nI (i + 1)).toNatClampNeg), .int (xs (nI (i + 2)).toNatClampNeg)]) (rest := []) ⟨hx, hb, hml, hown, hts⟩ (mX8_passes l D L ac hLL X (xs (nI (i + 1)).toNatClampNeg) (xs (nI (i + 2)).toNatClampNeg) _ _ hc1) (cwV 2 hts gL_X8_passes rfl rfl rfl (by decide +kernel) ⟨Nat.le_of_ble_eq_true rfl, Nat.le_of_ble_eq_true rfl⟩) (k_pv (j := 0) hK hN hO (by decide) rfl rfl _) rfl rfl hl.1 rfl (lv_room (Nat.le_of_ble_eq_true rfl)) dL_law_235 ⟨Nat.le_of_ble_eq_true rfl, Nat.le_of_ble_eq_true rfl⟩) hA hO (fun H locs hO => ?_)
          refine lv_aload_n hx hb dL_law_238 rfl (lv_at hl 2 rfl) ?_
          refine lv_aload_n hx hb dL_law_239 rfl (lv_at hl 0 rfl) ?_
          refine lv_iload_n hx hb dL_law_240 rfl (lv_at hl 3 rfl) ?_
          refine lv_iconst (v := 1) hx hb dL_law_241 (by decide) ?_
          refine lv_iadd hx hb dL_law_242 ?_
          refine lv_tope (z := nI (i + 1)) (nI_add i 1) ?_
          refine va_sld hx hb hX hbl hbA hO.2.2 (vp_in_nI (by omega) (by omega)) dL_law_243 ?_
          refine lv_aload_n hx hb dL_law_244 rfl (lv_at hl 0 rfl) ?_
          refine lv_iload_n hx hb dL_law_245 rfl (lv_at hl 3 rfl) ?_
          refine lv_iconst (v := 2) hx hb dL_law_246 (by decide) ?_
          refine lv_iadd hx hb dL_law_247 ?_
          refine lv_tope (z := nI (i + 2)) (nI_add i 2) ?_
          refine va_sld hx hb hX hbl hbA hO.2.2 (vp_in_nI (by omega) (by omega)) dL_law_248 ?_
          refine k_ai (va_runV (As := [.int (xs (nI (i + 1)).toNatClampNeg), .int (xs (nI (i + 2)).toNatClampNeg)]) (rest := [.int r]) ⟨hx, hb, hml, hown, hts⟩ (mX9_passes l D L ac hLL X1 (xs (nI (i + 1)).toNatClampNeg) (xs (nI (i + 2)).toNatClampNeg) _ _ hc2) (cwV 2 hts gL_X9_passes rfl rfl rfl (by decide +kernel) ⟨Nat.le_of_ble_eq_true rfl, Nat.le_of_ble_eq_true rfl⟩) (k_pv (j := 15) hK hN hO (by decide) rfl rfl _) rfl rfl hl.1 rfl (lv_room (Nat.le_of_ble_eq_true rfl)) dL_law_249 ⟨Nat.le_of_ble_eq_true rfl, Nat.le_of_ble_eq_true rfl⟩) hA hO (fun H locs hO => ?_)
          refine lv_icmp_eq (tgt := 723) hx hb dL_law_252 (by decide) (fun _ => ?_) (fun h => absurd rfl h)
          exact back X2 hI2 H locs hO ls hl
        · by_cases c_3 : xs (nI i).toNatClampNeg &&& 31 = 3
          · refine k_tabIn (tgt := 257) (off := 225) hx hb c_3 dL_law_32 (by decide) (by decide) rfl (by decide) ?_
            refine lv_aload_n hx hb dL_law_257 rfl (lv_at hl 1 rfl) ?_
            obtain ⟨r, X1, X2, hc1, hc2, hI2⟩ := ops_begin  X hI
            refine k_ai (va_runV (As := []) (rest := []) ⟨hx, hb, hml, hown, hts⟩ (mX8_begin l D L ac hLL X  _ _ hc1) (cwV 0 hts gL_X8_begin rfl rfl rfl (by decide +kernel) ⟨Nat.le_of_ble_eq_true rfl, Nat.le_of_ble_eq_true rfl⟩) (k_pv (j := 0) hK hN hO (by decide) rfl rfl _) rfl rfl hl.1 rfl (lv_room (Nat.le_of_ble_eq_true rfl)) dL_law_258 ⟨Nat.le_of_ble_eq_true rfl, Nat.le_of_ble_eq_true rfl⟩) hA hO (fun H locs hO => ?_)
            refine lv_aload_n hx hb dL_law_261 rfl (lv_at hl 2 rfl) ?_
            refine k_ai (va_runV (As := []) (rest := [.int r]) ⟨hx, hb, hml, hown, hts⟩ (mX9_begin l D L ac hLL X1  _ _ hc2) (cwV 0 hts gL_X9_begin rfl rfl rfl (by decide +kernel) ⟨Nat.le_of_ble_eq_true rfl, Nat.le_of_ble_eq_true rfl⟩) (k_pv (j := 15) hK hN hO (by decide) rfl rfl _) rfl rfl hl.1 rfl (lv_room (Nat.le_of_ble_eq_true rfl)) dL_law_262 ⟨Nat.le_of_ble_eq_true rfl, Nat.le_of_ble_eq_true rfl⟩) hA hO (fun H locs hO => ?_)
            refine lv_icmp_eq (tgt := 723) hx hb dL_law_265 (by decide) (fun _ => ?_) (fun h => absurd rfl h)
            exact back X2 hI2 H locs hO ls hl
          · by_cases c_4 : xs (nI i).toNatClampNeg &&& 31 = 4
            · refine k_tabIn (tgt := 270) (off := 238) hx hb c_4 dL_law_32 (by decide) (by decide) rfl (by decide) ?_
              refine lv_aload_n hx hb dL_law_270 rfl (lv_at hl 1 rfl) ?_
              refine lv_aload_n hx hb dL_law_271 rfl (lv_at hl 0 rfl) ?_
              refine lv_iload_n hx hb dL_law_272 rfl (lv_at hl 3 rfl) ?_
              refine lv_iconst (v := 1) hx hb dL_law_273 (by decide) ?_
              refine lv_iadd hx hb dL_law_274 ?_
              refine lv_tope (z := nI (i + 1)) (nI_add i 1) ?_
              refine va_sld hx hb hX hbl hbA hO.2.2 (vp_in_nI (by omega) (by omega)) dL_law_275 ?_
              refine lv_aload_n hx hb dL_law_276 rfl (lv_at hl 0 rfl) ?_
              refine lv_iload_n hx hb dL_law_277 rfl (lv_at hl 3 rfl) ?_
              refine lv_iconst (v := 2) hx hb dL_law_278 (by decide) ?_
              refine lv_iadd hx hb dL_law_279 ?_
              refine lv_tope (z := nI (i + 2)) (nI_add i 2) ?_
              refine va_sld hx hb hX hbl hbA hO.2.2 (vp_in_nI (by omega) (by omega)) dL_law_280 ?_
              obtain ⟨r, X1, X2, hc1, hc2, hI2⟩ := ops_take (xs (nI (i + 1)).toNatClampNeg) (xs (nI (i + 2)).toNatClampNeg) X hI
              refine k_ai (va_runV (As := [.int (xs (nI (i + 1)).toNatClampNeg), .int (xs (nI (i + 2)).toNatClampNeg)]) (rest := []) ⟨hx, hb, hml, hown, hts⟩ (mX8_take l D L ac hLL X (xs (nI (i + 1)).toNatClampNeg) (xs (nI (i + 2)).toNatClampNeg) _ _ hc1) (cwV 2 hts gL_X8_take rfl rfl rfl (by decide +kernel) ⟨Nat.le_of_ble_eq_true rfl, Nat.le_of_ble_eq_true rfl⟩) (k_pv (j := 0) hK hN hO (by decide) rfl rfl _) rfl rfl hl.1 rfl (lv_room (Nat.le_of_ble_eq_true rfl)) dL_law_281 ⟨Nat.le_of_ble_eq_true rfl, Nat.le_of_ble_eq_true rfl⟩) hA hO (fun H locs hO => ?_)
              refine lv_aload_n hx hb dL_law_284 rfl (lv_at hl 2 rfl) ?_
              refine lv_aload_n hx hb dL_law_285 rfl (lv_at hl 0 rfl) ?_
              refine lv_iload_n hx hb dL_law_286 rfl (lv_at hl 3 rfl) ?_
              refine lv_iconst (v := 1) hx hb dL_law_287 (by decide) ?_
              refine lv_iadd hx hb dL_law_288 ?_
              refine lv_tope (z := nI (i + 1)) (nI_add i 1) ?_
              refine va_sld hx hb hX hbl hbA hO.2.2 (vp_in_nI (by omega) (by omega)) dL_law_289 ?_
              refine lv_aload_n hx hb dL_law_290 rfl (lv_at hl 0 rfl) ?_
              refine lv_iload_n hx hb dL_law_291 rfl (lv_at hl 3 rfl) ?_
              refine lv_iconst (v := 2) hx hb dL_law_292 (by decide) ?_
              refine lv_iadd hx hb dL_law_293 ?_
              refine lv_tope (z := nI (i + 2)) (nI_add i 2) ?_
              refine va_sld hx hb hX hbl hbA hO.2.2 (vp_in_nI (by omega) (by omega)) dL_law_294 ?_
              refine k_ai (va_runV (As := [.int (xs (nI (i + 1)).toNatClampNeg), .int (xs (nI (i + 2)).toNatClampNeg)]) (rest := [.int r]) ⟨hx, hb, hml, hown, hts⟩ (mX9_take l D L ac hLL X1 (xs (nI (i + 1)).toNatClampNeg) (xs (nI (i + 2)).toNatClampNeg) _ _ hc2) (cwV 2 hts gL_X9_take rfl rfl rfl (by decide +kernel) ⟨Nat.le_of_ble_eq_true rfl, Nat.le_of_ble_eq_true rfl⟩) (k_pv (j := 15) hK hN hO (by decide) rfl rfl _) rfl rfl hl.1 rfl (lv_room (Nat.le_of_ble_eq_true rfl)) dL_law_295 ⟨Nat.le_of_ble_eq_true rfl, Nat.le_of_ble_eq_true rfl⟩) hA hO (fun H locs hO => ?_)
              refine lv_icmp_eq (tgt := 723) hx hb dL_law_298 (by decide) (fun _ => ?_) (fun h => absurd rfl h)
              exact back X2 hI2 H locs hO ls hl
            · by_cases c_5 : xs (nI i).toNatClampNeg &&& 31 = 5
              · refine k_tabIn (tgt := 303) (off := 271) hx hb c_5 dL_law_32 (by decide) (by decide) rfl (by decide) ?_
                refine lv_aload_n hx hb dL_law_303 rfl (lv_at hl 1 rfl) ?_
                obtain ⟨r, X1, X2, hc1, hc2, hI2⟩ := ops_pass  X hI
                refine k_ai (va_runV (As := []) (rest := []) ⟨hx, hb, hml, hown, hts⟩ (mX8_pass l D L ac hLL X  _ _ hc1) (cwV 0 hts gL_X8_pass rfl rfl rfl (by decide +kernel) ⟨Nat.le_of_ble_eq_true rfl, Nat.le_of_ble_eq_true rfl⟩) (k_pv (j := 0) hK hN hO (by decide) rfl rfl _) rfl rfl hl.1 rfl (lv_room (Nat.le_of_ble_eq_true rfl)) dL_law_304 ⟨Nat.le_of_ble_eq_true rfl, Nat.le_of_ble_eq_true rfl⟩) hA hO (fun H locs hO => ?_)
                refine lv_aload_n hx hb dL_law_307 rfl (lv_at hl 2 rfl) ?_
                refine k_ai (va_runV (As := []) (rest := [.int r]) ⟨hx, hb, hml, hown, hts⟩ (mX9_pass l D L ac hLL X1  _ _ hc2) (cwV 0 hts gL_X9_pass rfl rfl rfl (by decide +kernel) ⟨Nat.le_of_ble_eq_true rfl, Nat.le_of_ble_eq_true rfl⟩) (k_pv (j := 15) hK hN hO (by decide) rfl rfl _) rfl rfl hl.1 rfl (lv_room (Nat.le_of_ble_eq_true rfl)) dL_law_308 ⟨Nat.le_of_ble_eq_true rfl, Nat.le_of_ble_eq_true rfl⟩) hA hO (fun H locs hO => ?_)
                refine lv_icmp_eq (tgt := 723) hx hb dL_law_311 (by decide) (fun _ => ?_) (fun h => absurd rfl h)
                exact back X2 hI2 H locs hO ls hl
              · by_cases c_6 : xs (nI i).toNatClampNeg &&& 31 = 6
                · refine k_tabIn (tgt := 316) (off := 284) hx hb c_6 dL_law_32 (by decide) (by decide) rfl (by decide) ?_
                  refine lv_aload_n hx hb dL_law_316 rfl (lv_at hl 1 rfl) ?_
                  refine lv_aload_n hx hb dL_law_317 rfl (lv_at hl 0 rfl) ?_
                  refine lv_iload_n hx hb dL_law_318 rfl (lv_at hl 3 rfl) ?_
                  refine lv_iconst (v := 1) hx hb dL_law_319 (by decide) ?_
                  refine lv_iadd hx hb dL_law_320 ?_
                  refine lv_tope (z := nI (i + 1)) (nI_add i 1) ?_
                  refine va_sld hx hb hX hbl hbA hO.2.2 (vp_in_nI (by omega) (by omega)) dL_law_321 ?_
                  obtain ⟨r, X1, X2, hc1, hc2, hI2⟩ := ops_play (xs (nI (i + 1)).toNatClampNeg) X hI
                  refine k_ai (va_runV (As := [.int (xs (nI (i + 1)).toNatClampNeg)]) (rest := []) ⟨hx, hb, hml, hown, hts⟩ (mX8_play l D L ac hLL X (xs (nI (i + 1)).toNatClampNeg) _ _ hc1) (cwV 1 hts gL_X8_play rfl rfl rfl (by decide +kernel) ⟨Nat.le_of_ble_eq_true rfl, Nat.le_of_ble_eq_true rfl⟩) (k_pv (j := 0) hK hN hO (by decide) rfl rfl _) rfl rfl hl.1 rfl (lv_room (Nat.le_of_ble_eq_true rfl)) dL_law_322 ⟨Nat.le_of_ble_eq_true rfl, Nat.le_of_ble_eq_true rfl⟩) hA hO (fun H locs hO => ?_)
                  refine lv_aload_n hx hb dL_law_325 rfl (lv_at hl 2 rfl) ?_
                  refine lv_aload_n hx hb dL_law_326 rfl (lv_at hl 0 rfl) ?_
                  refine lv_iload_n hx hb dL_law_327 rfl (lv_at hl 3 rfl) ?_
                  refine lv_iconst (v := 1) hx hb dL_law_328 (by decide) ?_
                  refine lv_iadd hx hb dL_law_329 ?_
                  refine lv_tope (z := nI (i + 1)) (nI_add i 1) ?_
                  refine va_sld hx hb hX hbl hbA hO.2.2 (vp_in_nI (by omega) (by omega)) dL_law_330 ?_
                  refine k_ai (va_runV (As := [.int (xs (nI (i + 1)).toNatClampNeg)]) (rest := [.int r]) ⟨hx, hb, hml, hown, hts⟩ (mX9_play l D L ac hLL X1 (xs (nI (i + 1)).toNatClampNeg) _ _ hc2) (cwV 1 hts gL_X9_play rfl rfl rfl (by decide +kernel) ⟨Nat.le_of_ble_eq_true rfl, Nat.le_of_ble_eq_true rfl⟩) (k_pv (j := 15) hK hN hO (by decide) rfl rfl _) rfl rfl hl.1 rfl (lv_room (Nat.le_of_ble_eq_true rfl)) dL_law_331 ⟨Nat.le_of_ble_eq_true rfl, Nat.le_of_ble_eq_true rfl⟩) hA hO (fun H locs hO => ?_)
                  refine lv_icmp_eq (tgt := 723) hx hb dL_law_334 (by decide) (fun _ => ?_) (fun h => absurd rfl h)
                  exact back X2 hI2 H locs hO ls hl
                · by_cases c_7 : xs (nI i).toNatClampNeg &&& 31 = 7
                  · refine k_tabIn (tgt := 339) (off := 307) hx hb c_7 dL_law_32 (by decide) (by decide) rfl (by decide) ?_
                    refine lv_aload_n hx hb dL_law_339 rfl (lv_at hl 1 rfl) ?_
                    refine lv_aload_n hx hb dL_law_340 rfl (lv_at hl 0 rfl) ?_
                    refine lv_iload_n hx hb dL_law_341 rfl (lv_at hl 3 rfl) ?_
                    refine lv_iconst (v := 1) hx hb dL_law_342 (by decide) ?_
                    refine lv_iadd hx hb dL_law_343 ?_
                    refine lv_tope (z := nI (i + 1)) (nI_add i 1) ?_
                    refine va_sld hx hb hX hbl hbA hO.2.2 (vp_in_nI (by omega) (by omega)) dL_law_344 ?_
                    refine lv_aload_n hx hb dL_law_345 rfl (lv_at hl 0 rfl) ?_
                    refine lv_iload_n hx hb dL_law_346 rfl (lv_at hl 3 rfl) ?_
                    refine lv_iconst (v := 2) hx hb dL_law_347 (by decide) ?_
                    refine lv_iadd hx hb dL_law_348 ?_
                    refine lv_tope (z := nI (i + 2)) (nI_add i 2) ?_
                    refine va_sld hx hb hX hbl hbA hO.2.2 (vp_in_nI (by omega) (by omega)) dL_law_349 ?_
                    obtain ⟨r, X1, X2, hc1, hc2, hI2⟩ := ops_ofPile (xs (nI (i + 1)).toNatClampNeg) (xs (nI (i + 2)).toNatClampNeg) X hI
                    refine k_ai (va_runV (As := [.int (xs (nI (i + 1)).toNatClampNeg), .int (xs (nI (i + 2)).toNatClampNeg)]) (rest := []) ⟨hx, hb, hml, hown, hts⟩ (mX8_ofPile l D L ac hLL X (xs (nI (i + 1)).toNatClampNeg) (xs (nI (i + 2)).toNatClampNeg) _ _ hc1) (cwV 2 hts gL_X8_ofPile rfl rfl rfl (by decide +kernel) ⟨Nat.le_of_ble_eq_true rfl, Nat.le_of_ble_eq_true rfl⟩) (k_pv (j := 0) hK hN hO (by decide) rfl rfl _) rfl rfl hl.1 rfl (lv_room (Nat.le_of_ble_eq_true rfl)) dL_law_350 ⟨Nat.le_of_ble_eq_true rfl, Nat.le_of_ble_eq_true rfl⟩) hA hO (fun H locs hO => ?_)
                    refine lv_aload_n hx hb dL_law_353 rfl (lv_at hl 2 rfl) ?_
                    refine lv_aload_n hx hb dL_law_354 rfl (lv_at hl 0 rfl) ?_
                    refine lv_iload_n hx hb dL_law_355 rfl (lv_at hl 3 rfl) ?_
                    refine lv_iconst (v := 1) hx hb dL_law_356 (by decide) ?_
                    refine lv_iadd hx hb dL_law_357 ?_
                    refine lv_tope (z := nI (i + 1)) (nI_add i 1) ?_
                    refine va_sld hx hb hX hbl hbA hO.2.2 (vp_in_nI (by omega) (by omega)) dL_law_358 ?_
                    refine lv_aload_n hx hb dL_law_359 rfl (lv_at hl 0 rfl) ?_
                    refine lv_iload_n hx hb dL_law_360 rfl (lv_at hl 3 rfl) ?_
                    refine lv_iconst (v := 2) hx hb dL_law_361 (by decide) ?_
                    refine lv_iadd hx hb dL_law_362 ?_
                    refine lv_tope (z := nI (i + 2)) (nI_add i 2) ?_
                    refine va_sld hx hb hX hbl hbA hO.2.2 (vp_in_nI (by omega) (by omega)) dL_law_363 ?_
                    refine k_ai (va_runV (As := [.int (xs (nI (i + 1)).toNatClampNeg), .int (xs (nI (i + 2)).toNatClampNeg)]) (rest := [.int r]) ⟨hx, hb, hml, hown, hts⟩ (mX9_ofPile l D L ac hLL X1 (xs (nI (i + 1)).toNatClampNeg) (xs (nI (i + 2)).toNatClampNeg) _ _ hc2) (cwV 2 hts gL_X9_ofPile rfl rfl rfl (by decide +kernel) ⟨Nat.le_of_ble_eq_true rfl, Nat.le_of_ble_eq_true rfl⟩) (k_pv (j := 15) hK hN hO (by decide) rfl rfl _) rfl rfl hl.1 rfl (lv_room (Nat.le_of_ble_eq_true rfl)) dL_law_364 ⟨Nat.le_of_ble_eq_true rfl, Nat.le_of_ble_eq_true rfl⟩) hA hO (fun H locs hO => ?_)
                    refine lv_icmp_eq (tgt := 723) hx hb dL_law_367 (by decide) (fun _ => ?_) (fun h => absurd rfl h)
                    exact back X2 hI2 H locs hO ls hl
                  · by_cases c_8 : xs (nI i).toNatClampNeg &&& 31 = 8
                    · refine k_tabIn (tgt := 372) (off := 340) hx hb c_8 dL_law_32 (by decide) (by decide) rfl (by decide) ?_
                      refine lv_aload_n hx hb dL_law_372 rfl (lv_at hl 1 rfl) ?_
                      refine lv_aload_n hx hb dL_law_373 rfl (lv_at hl 0 rfl) ?_
                      refine lv_iload_n hx hb dL_law_374 rfl (lv_at hl 3 rfl) ?_
                      refine lv_iconst (v := 1) hx hb dL_law_375 (by decide) ?_
                      refine lv_iadd hx hb dL_law_376 ?_
                      refine lv_tope (z := nI (i + 1)) (nI_add i 1) ?_
                      refine va_sld hx hb hX hbl hbA hO.2.2 (vp_in_nI (by omega) (by omega)) dL_law_377 ?_
                      refine lv_aload_n hx hb dL_law_378 rfl (lv_at hl 0 rfl) ?_
                      refine lv_iload_n hx hb dL_law_379 rfl (lv_at hl 3 rfl) ?_
                      refine lv_iconst (v := 2) hx hb dL_law_380 (by decide) ?_
                      refine lv_iadd hx hb dL_law_381 ?_
                      refine lv_tope (z := nI (i + 2)) (nI_add i 2) ?_
                      refine va_sld hx hb hX hbl hbA hO.2.2 (vp_in_nI (by omega) (by omega)) dL_law_382 ?_
                      obtain ⟨r, X1, X2, hc1, hc2, hI2⟩ := ops_ofPlayer (xs (nI (i + 1)).toNatClampNeg) (xs (nI (i + 2)).toNatClampNeg) X hI
                      refine k_ai (va_runV (As := [.int (xs (nI (i + 1)).toNatClampNeg), .int (xs (nI (i + 2)).toNatClampNeg)]) (rest := []) ⟨hx, hb, hml, hown, hts⟩ (mX8_ofPlayer l D L ac hLL X (xs (nI (i + 1)).toNatClampNeg) (xs (nI (i + 2)).toNatClampNeg) _ _ hc1) (cwV 2 hts gL_X8_ofPlayer rfl rfl rfl (by decide +kernel) ⟨Nat.le_of_ble_eq_true rfl, Nat.le_of_ble_eq_true rfl⟩) (k_pv (j := 0) hK hN hO (by decide) rfl rfl _) rfl rfl hl.1 rfl (lv_room (Nat.le_of_ble_eq_true rfl)) dL_law_383 ⟨Nat.le_of_ble_eq_true rfl, Nat.le_of_ble_eq_true rfl⟩) hA hO (fun H locs hO => ?_)
                      refine lv_aload_n hx hb dL_law_386 rfl (lv_at hl 2 rfl) ?_
                      refine lv_aload_n hx hb dL_law_387 rfl (lv_at hl 0 rfl) ?_
                      refine lv_iload_n hx hb dL_law_388 rfl (lv_at hl 3 rfl) ?_
                      refine lv_iconst (v := 1) hx hb dL_law_389 (by decide) ?_
                      refine lv_iadd hx hb dL_law_390 ?_
                      refine lv_tope (z := nI (i + 1)) (nI_add i 1) ?_
                      refine va_sld hx hb hX hbl hbA hO.2.2 (vp_in_nI (by omega) (by omega)) dL_law_391 ?_
                      refine lv_aload_n hx hb dL_law_392 rfl (lv_at hl 0 rfl) ?_
                      refine lv_iload_n hx hb dL_law_393 rfl (lv_at hl 3 rfl) ?_
                      refine lv_iconst (v := 2) hx hb dL_law_394 (by decide) ?_
                      refine lv_iadd hx hb dL_law_395 ?_
                      refine lv_tope (z := nI (i + 2)) (nI_add i 2) ?_
                      refine va_sld hx hb hX hbl hbA hO.2.2 (vp_in_nI (by omega) (by omega)) dL_law_396 ?_
                      refine k_ai (va_runV (As := [.int (xs (nI (i + 1)).toNatClampNeg), .int (xs (nI (i + 2)).toNatClampNeg)]) (rest := [.int r]) ⟨hx, hb, hml, hown, hts⟩ (mX9_ofPlayer l D L ac hLL X1 (xs (nI (i + 1)).toNatClampNeg) (xs (nI (i + 2)).toNatClampNeg) _ _ hc2) (cwV 2 hts gL_X9_ofPlayer rfl rfl rfl (by decide +kernel) ⟨Nat.le_of_ble_eq_true rfl, Nat.le_of_ble_eq_true rfl⟩) (k_pv (j := 15) hK hN hO (by decide) rfl rfl _) rfl rfl hl.1 rfl (lv_room (Nat.le_of_ble_eq_true rfl)) dL_law_397 ⟨Nat.le_of_ble_eq_true rfl, Nat.le_of_ble_eq_true rfl⟩) hA hO (fun H locs hO => ?_)
                      refine lv_icmp_eq (tgt := 723) hx hb dL_law_400 (by decide) (fun _ => ?_) (fun h => absurd rfl h)
                      exact back X2 hI2 H locs hO ls hl
                    · by_cases c_9 : xs (nI i).toNatClampNeg &&& 31 = 9
                      · refine k_tabIn (tgt := 405) (off := 373) hx hb c_9 dL_law_32 (by decide) (by decide) rfl (by decide) ?_
                        refine lv_aload_n hx hb dL_law_405 rfl (lv_at hl 1 rfl) ?_
                        refine lv_aload_n hx hb dL_law_406 rfl (lv_at hl 0 rfl) ?_
                        refine lv_iload_n hx hb dL_law_407 rfl (lv_at hl 3 rfl) ?_
                        refine lv_iconst (v := 1) hx hb dL_law_408 (by decide) ?_
                        refine lv_iadd hx hb dL_law_409 ?_
                        refine lv_tope (z := nI (i + 1)) (nI_add i 1) ?_
                        refine va_sld hx hb hX hbl hbA hO.2.2 (vp_in_nI (by omega) (by omega)) dL_law_410 ?_
                        obtain ⟨r, X1, X2, hc1, hc2, hI2⟩ := ops_count (xs (nI (i + 1)).toNatClampNeg) X hI
                        refine k_ai (va_runV (As := [.int (xs (nI (i + 1)).toNatClampNeg)]) (rest := []) ⟨hx, hb, hml, hown, hts⟩ (mX8_count l D L ac hLL X (xs (nI (i + 1)).toNatClampNeg) _ _ hc1) (cwV 1 hts gL_X8_count rfl rfl rfl (by decide +kernel) ⟨Nat.le_of_ble_eq_true rfl, Nat.le_of_ble_eq_true rfl⟩) (k_pv (j := 0) hK hN hO (by decide) rfl rfl _) rfl rfl hl.1 rfl (lv_room (Nat.le_of_ble_eq_true rfl)) dL_law_411 ⟨Nat.le_of_ble_eq_true rfl, Nat.le_of_ble_eq_true rfl⟩) hA hO (fun H locs hO => ?_)
                        refine lv_aload_n hx hb dL_law_414 rfl (lv_at hl 2 rfl) ?_
                        refine lv_aload_n hx hb dL_law_415 rfl (lv_at hl 0 rfl) ?_
                        refine lv_iload_n hx hb dL_law_416 rfl (lv_at hl 3 rfl) ?_
                        refine lv_iconst (v := 1) hx hb dL_law_417 (by decide) ?_
                        refine lv_iadd hx hb dL_law_418 ?_
                        refine lv_tope (z := nI (i + 1)) (nI_add i 1) ?_
                        refine va_sld hx hb hX hbl hbA hO.2.2 (vp_in_nI (by omega) (by omega)) dL_law_419 ?_
                        refine k_ai (va_runV (As := [.int (xs (nI (i + 1)).toNatClampNeg)]) (rest := [.int r]) ⟨hx, hb, hml, hown, hts⟩ (mX9_count l D L ac hLL X1 (xs (nI (i + 1)).toNatClampNeg) _ _ hc2) (cwV 1 hts gL_X9_count rfl rfl rfl (by decide +kernel) ⟨Nat.le_of_ble_eq_true rfl, Nat.le_of_ble_eq_true rfl⟩) (k_pv (j := 15) hK hN hO (by decide) rfl rfl _) rfl rfl hl.1 rfl (lv_room (Nat.le_of_ble_eq_true rfl)) dL_law_420 ⟨Nat.le_of_ble_eq_true rfl, Nat.le_of_ble_eq_true rfl⟩) hA hO (fun H locs hO => ?_)
                        refine lv_icmp_eq (tgt := 723) hx hb dL_law_423 (by decide) (fun _ => ?_) (fun h => absurd rfl h)
                        exact back X2 hI2 H locs hO ls hl
                      · by_cases c_10 : xs (nI i).toNatClampNeg &&& 31 = 10
                        · refine k_tabIn (tgt := 428) (off := 396) hx hb c_10 dL_law_32 (by decide) (by decide) rfl (by decide) ?_
                          refine lv_aload_n hx hb dL_law_428 rfl (lv_at hl 1 rfl) ?_
                          obtain ⟨r, X1, X2, hc1, hc2, hI2⟩ := ops_moves  X hI
                          refine k_ai (va_runV (As := []) (rest := []) ⟨hx, hb, hml, hown, hts⟩ (mX8_moves l D L ac hLL X  _ _ hc1) (cwV 0 hts gL_X8_moves rfl rfl rfl (by decide +kernel) ⟨Nat.le_of_ble_eq_true rfl, Nat.le_of_ble_eq_true rfl⟩) (k_pv (j := 0) hK hN hO (by decide) rfl rfl _) rfl rfl hl.1 rfl (lv_room (Nat.le_of_ble_eq_true rfl)) dL_law_429 ⟨Nat.le_of_ble_eq_true rfl, Nat.le_of_ble_eq_true rfl⟩) hA hO (fun H locs hO => ?_)
                          refine lv_aload_n hx hb dL_law_432 rfl (lv_at hl 2 rfl) ?_
                          refine k_ai (va_runV (As := []) (rest := [.int r]) ⟨hx, hb, hml, hown, hts⟩ (mX9_moves l D L ac hLL X1  _ _ hc2) (cwV 0 hts gL_X9_moves rfl rfl rfl (by decide +kernel) ⟨Nat.le_of_ble_eq_true rfl, Nat.le_of_ble_eq_true rfl⟩) (k_pv (j := 15) hK hN hO (by decide) rfl rfl _) rfl rfl hl.1 rfl (lv_room (Nat.le_of_ble_eq_true rfl)) dL_law_433 ⟨Nat.le_of_ble_eq_true rfl, Nat.le_of_ble_eq_true rfl⟩) hA hO (fun H locs hO => ?_)
                          refine lv_icmp_eq (tgt := 723) hx hb dL_law_436 (by decide) (fun _ => ?_) (fun h => absurd rfl h)
                          exact back X2 hI2 H locs hO ls hl
                        · by_cases c_11 : xs (nI i).toNatClampNeg &&& 31 = 11
                          · refine k_tabIn (tgt := 441) (off := 409) hx hb c_11 dL_law_32 (by decide) (by decide) rfl (by decide) ?_
                            refine lv_aload_n hx hb dL_law_441 rfl (lv_at hl 1 rfl) ?_
                            obtain ⟨r, X1, X2, hc1, hc2, hI2⟩ := ops_won  X hI
                            refine k_ai (va_runV (As := []) (rest := []) ⟨hx, hb, hml, hown, hts⟩ (mX8_won l D L ac hLL X  _ _ hc1) (cwV 0 hts gL_X8_won rfl rfl rfl (by decide +kernel) ⟨Nat.le_of_ble_eq_true rfl, Nat.le_of_ble_eq_true rfl⟩) (k_pv (j := 0) hK hN hO (by decide) rfl rfl _) rfl rfl hl.1 rfl (lv_room (Nat.le_of_ble_eq_true rfl)) dL_law_442 ⟨Nat.le_of_ble_eq_true rfl, Nat.le_of_ble_eq_true rfl⟩) hA hO (fun H locs hO => ?_)
                            refine lv_aload_n hx hb dL_law_445 rfl (lv_at hl 2 rfl) ?_
                            refine k_ai (va_runV (As := []) (rest := [.int r]) ⟨hx, hb, hml, hown, hts⟩ (mX9_won l D L ac hLL X1  _ _ hc2) (cwV 0 hts gL_X9_won rfl rfl rfl (by decide +kernel) ⟨Nat.le_of_ble_eq_true rfl, Nat.le_of_ble_eq_true rfl⟩) (k_pv (j := 15) hK hN hO (by decide) rfl rfl _) rfl rfl hl.1 rfl (lv_room (Nat.le_of_ble_eq_true rfl)) dL_law_446 ⟨Nat.le_of_ble_eq_true rfl, Nat.le_of_ble_eq_true rfl⟩) hA hO (fun H locs hO => ?_)
                            refine lv_icmp_eq (tgt := 723) hx hb dL_law_449 (by decide) (fun _ => ?_) (fun h => absurd rfl h)
                            exact back X2 hI2 H locs hO ls hl
                          · by_cases c_12 : xs (nI i).toNatClampNeg &&& 31 = 12
                            · refine k_tabIn (tgt := 454) (off := 422) hx hb c_12 dL_law_32 (by decide) (by decide) rfl (by decide) ?_
                              refine lv_aload_n hx hb dL_law_454 rfl (lv_at hl 1 rfl) ?_
                              obtain ⟨r, X1, X2, hc1, hc2, hI2⟩ := ops_winning  X hI
                              refine k_ai (va_runV (As := []) (rest := []) ⟨hx, hb, hml, hown, hts⟩ (mX8_winning l D L ac hLL X  _ _ hc1) (cwV 0 hts gL_X8_winning rfl rfl rfl (by decide +kernel) ⟨Nat.le_of_ble_eq_true rfl, Nat.le_of_ble_eq_true rfl⟩) (k_pv (j := 0) hK hN hO (by decide) rfl rfl _) rfl rfl hl.1 rfl (lv_room (Nat.le_of_ble_eq_true rfl)) dL_law_455 ⟨Nat.le_of_ble_eq_true rfl, Nat.le_of_ble_eq_true rfl⟩) hA hO (fun H locs hO => ?_)
                              refine lv_aload_n hx hb dL_law_458 rfl (lv_at hl 2 rfl) ?_
                              refine k_ai (va_runV (As := []) (rest := [.int r]) ⟨hx, hb, hml, hown, hts⟩ (mX9_winning l D L ac hLL X1  _ _ hc2) (cwV 0 hts gL_X9_winning rfl rfl rfl (by decide +kernel) ⟨Nat.le_of_ble_eq_true rfl, Nat.le_of_ble_eq_true rfl⟩) (k_pv (j := 15) hK hN hO (by decide) rfl rfl _) rfl rfl hl.1 rfl (lv_room (Nat.le_of_ble_eq_true rfl)) dL_law_459 ⟨Nat.le_of_ble_eq_true rfl, Nat.le_of_ble_eq_true rfl⟩) hA hO (fun H locs hO => ?_)
                              refine lv_icmp_eq (tgt := 723) hx hb dL_law_462 (by decide) (fun _ => ?_) (fun h => absurd rfl h)
                              exact back X2 hI2 H locs hO ls hl
                            · by_cases c_13 : xs (nI i).toNatClampNeg &&& 31 = 13
                              · refine k_tabIn (tgt := 467) (off := 435) hx hb c_13 dL_law_32 (by decide) (by decide) rfl (by decide) ?_
                                refine lv_aload_n hx hb dL_law_467 rfl (lv_at hl 1 rfl) ?_
                                obtain ⟨r, X1, X2, hc1, hc2, hI2⟩ := ops_value  X hI
                                refine k_ai (va_runV (As := []) (rest := []) ⟨hx, hb, hml, hown, hts⟩ (mX8_value l D L ac hLL X  _ _ hc1) (cwV 0 hts gL_X8_value rfl rfl rfl (by decide +kernel) ⟨Nat.le_of_ble_eq_true rfl, Nat.le_of_ble_eq_true rfl⟩) (k_pv (j := 0) hK hN hO (by decide) rfl rfl _) rfl rfl hl.1 rfl (lv_room (Nat.le_of_ble_eq_true rfl)) dL_law_468 ⟨Nat.le_of_ble_eq_true rfl, Nat.le_of_ble_eq_true rfl⟩) hA hO (fun H locs hO => ?_)
                                refine lv_aload_n hx hb dL_law_471 rfl (lv_at hl 2 rfl) ?_
                                refine k_ai (va_runV (As := []) (rest := [.int r]) ⟨hx, hb, hml, hown, hts⟩ (mX9_value l D L ac hLL X1  _ _ hc2) (cwV 0 hts gL_X9_value rfl rfl rfl (by decide +kernel) ⟨Nat.le_of_ble_eq_true rfl, Nat.le_of_ble_eq_true rfl⟩) (k_pv (j := 15) hK hN hO (by decide) rfl rfl _) rfl rfl hl.1 rfl (lv_room (Nat.le_of_ble_eq_true rfl)) dL_law_472 ⟨Nat.le_of_ble_eq_true rfl, Nat.le_of_ble_eq_true rfl⟩) hA hO (fun H locs hO => ?_)
                                refine lv_icmp_eq (tgt := 723) hx hb dL_law_475 (by decide) (fun _ => ?_) (fun h => absurd rfl h)
                                exact back X2 hI2 H locs hO ls hl
                              · by_cases c_14 : xs (nI i).toNatClampNeg &&& 31 = 14
                                · refine k_tabIn (tgt := 480) (off := 448) hx hb c_14 dL_law_32 (by decide) (by decide) rfl (by decide) ?_
                                  refine lv_aload_n hx hb dL_law_480 rfl (lv_at hl 1 rfl) ?_
                                  obtain ⟨r, X1, X2, hc1, hc2, hI2⟩ := ops_best  X hI
                                  refine k_ai (va_runV (As := []) (rest := []) ⟨hx, hb, hml, hown, hts⟩ (mX8_best l D L ac hLL X  _ _ hc1) (cwV 0 hts gL_X8_best rfl rfl rfl (by decide +kernel) ⟨Nat.le_of_ble_eq_true rfl, Nat.le_of_ble_eq_true rfl⟩) (k_pv (j := 0) hK hN hO (by decide) rfl rfl _) rfl rfl hl.1 rfl (lv_room (Nat.le_of_ble_eq_true rfl)) dL_law_481 ⟨Nat.le_of_ble_eq_true rfl, Nat.le_of_ble_eq_true rfl⟩) hA hO (fun H locs hO => ?_)
                                  refine lv_aload_n hx hb dL_law_484 rfl (lv_at hl 2 rfl) ?_
                                  refine k_ai (va_runV (As := []) (rest := [.int r]) ⟨hx, hb, hml, hown, hts⟩ (mX9_best l D L ac hLL X1  _ _ hc2) (cwV 0 hts gL_X9_best rfl rfl rfl (by decide +kernel) ⟨Nat.le_of_ble_eq_true rfl, Nat.le_of_ble_eq_true rfl⟩) (k_pv (j := 15) hK hN hO (by decide) rfl rfl _) rfl rfl hl.1 rfl (lv_room (Nat.le_of_ble_eq_true rfl)) dL_law_485 ⟨Nat.le_of_ble_eq_true rfl, Nat.le_of_ble_eq_true rfl⟩) hA hO (fun H locs hO => ?_)
                                  refine lv_icmp_eq (tgt := 723) hx hb dL_law_488 (by decide) (fun _ => ?_) (fun h => absurd rfl h)
                                  exact back X2 hI2 H locs hO ls hl
                                · by_cases c_15 : xs (nI i).toNatClampNeg &&& 31 = 15
                                  · refine k_tabIn (tgt := 493) (off := 461) hx hb c_15 dL_law_32 (by decide) (by decide) rfl (by decide) ?_
                                    refine lv_aload_n hx hb dL_law_493 rfl (lv_at hl 1 rfl) ?_
                                    refine lv_aload_n hx hb dL_law_494 rfl (lv_at hl 0 rfl) ?_
                                    refine lv_iload_n hx hb dL_law_495 rfl (lv_at hl 3 rfl) ?_
                                    refine lv_iconst (v := 1) hx hb dL_law_496 (by decide) ?_
                                    refine lv_iadd hx hb dL_law_497 ?_
                                    refine lv_tope (z := nI (i + 1)) (nI_add i 1) ?_
                                    refine va_sld hx hb hX hbl hbA hO.2.2 (vp_in_nI (by omega) (by omega)) dL_law_498 ?_
                                    obtain ⟨r, X1, X2, hc1, hc2, hI2⟩ := ops_grundy (xs (nI (i + 1)).toNatClampNeg) X hI
                                    refine k_ai (va_runV (As := [.int (xs (nI (i + 1)).toNatClampNeg)]) (rest := []) ⟨hx, hb, hml, hown, hts⟩ (mX8_grundy l D L ac hLL X (xs (nI (i + 1)).toNatClampNeg) _ _ hc1) (cwV 1 hts gL_X8_grundy rfl rfl rfl (by decide +kernel) ⟨Nat.le_of_ble_eq_true rfl, Nat.le_of_ble_eq_true rfl⟩) (k_pv (j := 0) hK hN hO (by decide) rfl rfl _) rfl rfl hl.1 rfl (lv_room (Nat.le_of_ble_eq_true rfl)) dL_law_499 ⟨Nat.le_of_ble_eq_true rfl, Nat.le_of_ble_eq_true rfl⟩) hA hO (fun H locs hO => ?_)
                                    refine lv_aload_n hx hb dL_law_502 rfl (lv_at hl 2 rfl) ?_
                                    refine lv_aload_n hx hb dL_law_503 rfl (lv_at hl 0 rfl) ?_
                                    refine lv_iload_n hx hb dL_law_504 rfl (lv_at hl 3 rfl) ?_
                                    refine lv_iconst (v := 1) hx hb dL_law_505 (by decide) ?_
                                    refine lv_iadd hx hb dL_law_506 ?_
                                    refine lv_tope (z := nI (i + 1)) (nI_add i 1) ?_
                                    refine va_sld hx hb hX hbl hbA hO.2.2 (vp_in_nI (by omega) (by omega)) dL_law_507 ?_
                                    refine k_ai (va_runV (As := [.int (xs (nI (i + 1)).toNatClampNeg)]) (rest := [.int r]) ⟨hx, hb, hml, hown, hts⟩ (mX9_grundy l D L ac hLL X1 (xs (nI (i + 1)).toNatClampNeg) _ _ hc2) (cwV 1 hts gL_X9_grundy rfl rfl rfl (by decide +kernel) ⟨Nat.le_of_ble_eq_true rfl, Nat.le_of_ble_eq_true rfl⟩) (k_pv (j := 15) hK hN hO (by decide) rfl rfl _) rfl rfl hl.1 rfl (lv_room (Nat.le_of_ble_eq_true rfl)) dL_law_508 ⟨Nat.le_of_ble_eq_true rfl, Nat.le_of_ble_eq_true rfl⟩) hA hO (fun H locs hO => ?_)
                                    refine lv_icmp_eq (tgt := 723) hx hb dL_law_511 (by decide) (fun _ => ?_) (fun h => absurd rfl h)
                                    exact back X2 hI2 H locs hO ls hl
                                  · by_cases c_16 : xs (nI i).toNatClampNeg &&& 31 = 16
                                    · refine k_tabIn (tgt := 516) (off := 484) hx hb c_16 dL_law_32 (by decide) (by decide) rfl (by decide) ?_
                                      refine lv_aload_n hx hb dL_law_516 rfl (lv_at hl 1 rfl) ?_
                                      refine lv_aload_n hx hb dL_law_517 rfl (lv_at hl 0 rfl) ?_
                                      refine lv_iload_n hx hb dL_law_518 rfl (lv_at hl 3 rfl) ?_
                                      refine lv_iconst (v := 1) hx hb dL_law_519 (by decide) ?_
                                      refine lv_iadd hx hb dL_law_520 ?_
                                      refine lv_tope (z := nI (i + 1)) (nI_add i 1) ?_
                                      refine va_sld hx hb hX hbl hbA hO.2.2 (vp_in_nI (by omega) (by omega)) dL_law_521 ?_
                                      obtain ⟨r, X1, X2, hc1, hc2, hI2⟩ := ops_period (xs (nI (i + 1)).toNatClampNeg) X hI
                                      refine k_ai (va_runV (As := [.int (xs (nI (i + 1)).toNatClampNeg)]) (rest := []) ⟨hx, hb, hml, hown, hts⟩ (mX8_period l D L ac hLL X (xs (nI (i + 1)).toNatClampNeg) _ _ hc1) (cwV 1 hts gL_X8_period rfl rfl rfl (by decide +kernel) ⟨Nat.le_of_ble_eq_true rfl, Nat.le_of_ble_eq_true rfl⟩) (k_pv (j := 0) hK hN hO (by decide) rfl rfl _) rfl rfl hl.1 rfl (lv_room (Nat.le_of_ble_eq_true rfl)) dL_law_522 ⟨Nat.le_of_ble_eq_true rfl, Nat.le_of_ble_eq_true rfl⟩) hA hO (fun H locs hO => ?_)
                                      refine lv_aload_n hx hb dL_law_525 rfl (lv_at hl 2 rfl) ?_
                                      refine lv_aload_n hx hb dL_law_526 rfl (lv_at hl 0 rfl) ?_
                                      refine lv_iload_n hx hb dL_law_527 rfl (lv_at hl 3 rfl) ?_
                                      refine lv_iconst (v := 1) hx hb dL_law_528 (by decide) ?_
                                      refine lv_iadd hx hb dL_law_529 ?_
                                      refine lv_tope (z := nI (i + 1)) (nI_add i 1) ?_
                                      refine va_sld hx hb hX hbl hbA hO.2.2 (vp_in_nI (by omega) (by omega)) dL_law_530 ?_
                                      refine k_ai (va_runV (As := [.int (xs (nI (i + 1)).toNatClampNeg)]) (rest := [.int r]) ⟨hx, hb, hml, hown, hts⟩ (mX9_period l D L ac hLL X1 (xs (nI (i + 1)).toNatClampNeg) _ _ hc2) (cwV 1 hts gL_X9_period rfl rfl rfl (by decide +kernel) ⟨Nat.le_of_ble_eq_true rfl, Nat.le_of_ble_eq_true rfl⟩) (k_pv (j := 15) hK hN hO (by decide) rfl rfl _) rfl rfl hl.1 rfl (lv_room (Nat.le_of_ble_eq_true rfl)) dL_law_531 ⟨Nat.le_of_ble_eq_true rfl, Nat.le_of_ble_eq_true rfl⟩) hA hO (fun H locs hO => ?_)
                                      refine lv_icmp_eq (tgt := 723) hx hb dL_law_534 (by decide) (fun _ => ?_) (fun h => absurd rfl h)
                                      exact back X2 hI2 H locs hO ls hl
                                    · by_cases c_17 : xs (nI i).toNatClampNeg &&& 31 = 17
                                      · refine k_tabIn (tgt := 539) (off := 507) hx hb c_17 dL_law_32 (by decide) (by decide) rfl (by decide) ?_
                                        refine lv_aload_n hx hb dL_law_539 rfl (lv_at hl 1 rfl) ?_
                                        refine lv_aload_n hx hb dL_law_540 rfl (lv_at hl 0 rfl) ?_
                                        refine lv_iload_n hx hb dL_law_541 rfl (lv_at hl 3 rfl) ?_
                                        refine lv_iconst (v := 1) hx hb dL_law_542 (by decide) ?_
                                        refine lv_iadd hx hb dL_law_543 ?_
                                        refine lv_tope (z := nI (i + 1)) (nI_add i 1) ?_
                                        refine va_sld hx hb hX hbl hbA hO.2.2 (vp_in_nI (by omega) (by omega)) dL_law_544 ?_
                                        refine lv_aload_n hx hb dL_law_545 rfl (lv_at hl 0 rfl) ?_
                                        refine lv_iload_n hx hb dL_law_546 rfl (lv_at hl 3 rfl) ?_
                                        refine lv_iconst (v := 2) hx hb dL_law_547 (by decide) ?_
                                        refine lv_iadd hx hb dL_law_548 ?_
                                        refine lv_tope (z := nI (i + 2)) (nI_add i 2) ?_
                                        refine va_sld hx hb hX hbl hbA hO.2.2 (vp_in_nI (by omega) (by omega)) dL_law_549 ?_
                                        obtain ⟨r, X1, X2, hc1, hc2, hI2⟩ := ops_drawn (xs (nI (i + 1)).toNatClampNeg) (xs (nI (i + 2)).toNatClampNeg) X hI
                                        refine k_ai (va_runV (As := [.int (xs (nI (i + 1)).toNatClampNeg), .int (xs (nI (i + 2)).toNatClampNeg)]) (rest := []) ⟨hx, hb, hml, hown, hts⟩ (mX8_drawn l D L ac hLL X (xs (nI (i + 1)).toNatClampNeg) (xs (nI (i + 2)).toNatClampNeg) _ _ hc1) (cwV 2 hts gL_X8_drawn rfl rfl rfl (by decide +kernel) ⟨Nat.le_of_ble_eq_true rfl, Nat.le_of_ble_eq_true rfl⟩) (k_pv (j := 0) hK hN hO (by decide) rfl rfl _) rfl rfl hl.1 rfl (lv_room (Nat.le_of_ble_eq_true rfl)) dL_law_550 ⟨Nat.le_of_ble_eq_true rfl, Nat.le_of_ble_eq_true rfl⟩) hA hO (fun H locs hO => ?_)
                                        refine lv_aload_n hx hb dL_law_553 rfl (lv_at hl 2 rfl) ?_
                                        refine lv_aload_n hx hb dL_law_554 rfl (lv_at hl 0 rfl) ?_
                                        refine lv_iload_n hx hb dL_law_555 rfl (lv_at hl 3 rfl) ?_
                                        refine lv_iconst (v := 1) hx hb dL_law_556 (by decide) ?_
                                        refine lv_iadd hx hb dL_law_557 ?_
                                        refine lv_tope (z := nI (i + 1)) (nI_add i 1) ?_
                                        refine va_sld hx hb hX hbl hbA hO.2.2 (vp_in_nI (by omega) (by omega)) dL_law_558 ?_
                                        refine lv_aload_n hx hb dL_law_559 rfl (lv_at hl 0 rfl) ?_
                                        refine lv_iload_n hx hb dL_law_560 rfl (lv_at hl 3 rfl) ?_
                                        refine lv_iconst (v := 2) hx hb dL_law_561 (by decide) ?_
                                        refine lv_iadd hx hb dL_law_562 ?_
                                        refine lv_tope (z := nI (i + 2)) (nI_add i 2) ?_
                                        refine va_sld hx hb hX hbl hbA hO.2.2 (vp_in_nI (by omega) (by omega)) dL_law_563 ?_
                                        refine k_ai (va_runV (As := [.int (xs (nI (i + 1)).toNatClampNeg), .int (xs (nI (i + 2)).toNatClampNeg)]) (rest := [.int r]) ⟨hx, hb, hml, hown, hts⟩ (mX9_drawn l D L ac hLL X1 (xs (nI (i + 1)).toNatClampNeg) (xs (nI (i + 2)).toNatClampNeg) _ _ hc2) (cwV 2 hts gL_X9_drawn rfl rfl rfl (by decide +kernel) ⟨Nat.le_of_ble_eq_true rfl, Nat.le_of_ble_eq_true rfl⟩) (k_pv (j := 15) hK hN hO (by decide) rfl rfl _) rfl rfl hl.1 rfl (lv_room (Nat.le_of_ble_eq_true rfl)) dL_law_564 ⟨Nat.le_of_ble_eq_true rfl, Nat.le_of_ble_eq_true rfl⟩) hA hO (fun H locs hO => ?_)
                                        refine lv_icmp_eq (tgt := 723) hx hb dL_law_567 (by decide) (fun _ => ?_) (fun h => absurd rfl h)
                                        exact back X2 hI2 H locs hO ls hl
                                      · by_cases c_18 : xs (nI i).toNatClampNeg &&& 31 = 18
                                        · refine k_tabIn (tgt := 572) (off := 540) hx hb c_18 dL_law_32 (by decide) (by decide) rfl (by decide) ?_
                                          refine lv_aload_n hx hb dL_law_572 rfl (lv_at hl 1 rfl) ?_
                                          refine lv_aload_n hx hb dL_law_573 rfl (lv_at hl 0 rfl) ?_
                                          refine lv_iload_n hx hb dL_law_574 rfl (lv_at hl 3 rfl) ?_
                                          refine lv_iconst (v := 1) hx hb dL_law_575 (by decide) ?_
                                          refine lv_iadd hx hb dL_law_576 ?_
                                          refine lv_tope (z := nI (i + 1)) (nI_add i 1) ?_
                                          refine va_sld hx hb hX hbl hbA hO.2.2 (vp_in_nI (by omega) (by omega)) dL_law_577 ?_
                                          refine lv_i2l hx hb dL_law_578 rfl ?_
                                          refine lv_bipush (v := 32) hx hb dL_law_579 (by decide) ?_
                                          refine lv_lshl hx hb dL_law_581 rfl ?_
                                          refine lv_aload_n hx hb dL_law_582 rfl (lv_at hl 0 rfl) ?_
                                          refine lv_iload_n hx hb dL_law_583 rfl (lv_at hl 3 rfl) ?_
                                          refine lv_iconst (v := 2) hx hb dL_law_584 (by decide) ?_
                                          refine lv_iadd hx hb dL_law_585 ?_
                                          refine lv_tope (z := nI (i + 2)) (nI_add i 2) ?_
                                          refine va_sld hx hb hX hbl hbA hO.2.2 (vp_in_nI (by omega) (by omega)) dL_law_586 ?_
                                          refine lv_i2l hx hb dL_law_587 rfl ?_
                                          refine lv_ldc2 (v := 4294967295) hx hb hown (hts _ lkL_c89) dL_law_588 ?_
                                          refine lv_land hx hb dL_law_591 ?_
                                          refine lv_lor hx hb dL_law_592 ?_
                                          obtain ⟨r, X1, X2, hc1, hc2, hI2⟩ := ops_put ((o_lsl (Int32.toInt64 (xs (nI (i + 1)).toNatClampNeg)) 32) ||| ((Int32.toInt64 (xs (nI (i + 2)).toNatClampNeg)) &&& ((4294967295 : Int64)))) X hI
                                          refine k_ai (va_runV (As := [.long ((o_lsl (Int32.toInt64 (xs (nI (i + 1)).toNatClampNeg)) 32) ||| ((Int32.toInt64 (xs (nI (i + 2)).toNatClampNeg)) &&& ((4294967295 : Int64))))]) (rest := []) ⟨hx, hb, hml, hown, hts⟩ (mX8_put l D L ac hLL X ((o_lsl (Int32.toInt64 (xs (nI (i + 1)).toNatClampNeg)) 32) ||| ((Int32.toInt64 (xs (nI (i + 2)).toNatClampNeg)) &&& ((4294967295 : Int64)))) _ _ hc1) (cwV 1 hts gL_X8_put rfl rfl rfl (by decide +kernel) ⟨Nat.le_of_ble_eq_true rfl, Nat.le_of_ble_eq_true rfl⟩) (k_pv (j := 0) hK hN hO (by decide) rfl rfl _) rfl rfl hl.1 rfl (lv_room (Nat.le_of_ble_eq_true rfl)) dL_law_593 ⟨Nat.le_of_ble_eq_true rfl, Nat.le_of_ble_eq_true rfl⟩) hA hO (fun H locs hO => ?_)
                                          refine lv_aload_n hx hb dL_law_596 rfl (lv_at hl 2 rfl) ?_
                                          refine lv_aload_n hx hb dL_law_597 rfl (lv_at hl 0 rfl) ?_
                                          refine lv_iload_n hx hb dL_law_598 rfl (lv_at hl 3 rfl) ?_
                                          refine lv_iconst (v := 1) hx hb dL_law_599 (by decide) ?_
                                          refine lv_iadd hx hb dL_law_600 ?_
                                          refine lv_tope (z := nI (i + 1)) (nI_add i 1) ?_
                                          refine va_sld hx hb hX hbl hbA hO.2.2 (vp_in_nI (by omega) (by omega)) dL_law_601 ?_
                                          refine lv_i2l hx hb dL_law_602 rfl ?_
                                          refine lv_bipush (v := 32) hx hb dL_law_603 (by decide) ?_
                                          refine lv_lshl hx hb dL_law_605 rfl ?_
                                          refine lv_aload_n hx hb dL_law_606 rfl (lv_at hl 0 rfl) ?_
                                          refine lv_iload_n hx hb dL_law_607 rfl (lv_at hl 3 rfl) ?_
                                          refine lv_iconst (v := 2) hx hb dL_law_608 (by decide) ?_
                                          refine lv_iadd hx hb dL_law_609 ?_
                                          refine lv_tope (z := nI (i + 2)) (nI_add i 2) ?_
                                          refine va_sld hx hb hX hbl hbA hO.2.2 (vp_in_nI (by omega) (by omega)) dL_law_610 ?_
                                          refine lv_i2l hx hb dL_law_611 rfl ?_
                                          refine lv_ldc2 (v := 4294967295) hx hb hown (hts _ lkL_c89) dL_law_612 ?_
                                          refine lv_land hx hb dL_law_615 ?_
                                          refine lv_lor hx hb dL_law_616 ?_
                                          refine k_ai (va_runV (As := [.long ((o_lsl (Int32.toInt64 (xs (nI (i + 1)).toNatClampNeg)) 32) ||| ((Int32.toInt64 (xs (nI (i + 2)).toNatClampNeg)) &&& ((4294967295 : Int64))))]) (rest := [.int r]) ⟨hx, hb, hml, hown, hts⟩ (mX9_put l D L ac hLL X1 ((o_lsl (Int32.toInt64 (xs (nI (i + 1)).toNatClampNeg)) 32) ||| ((Int32.toInt64 (xs (nI (i + 2)).toNatClampNeg)) &&& ((4294967295 : Int64)))) _ _ hc2) (cwV 1 hts gL_X9_put rfl rfl rfl (by decide +kernel) ⟨Nat.le_of_ble_eq_true rfl, Nat.le_of_ble_eq_true rfl⟩) (k_pv (j := 15) hK hN hO (by decide) rfl rfl _) rfl rfl hl.1 rfl (lv_room (Nat.le_of_ble_eq_true rfl)) dL_law_617 ⟨Nat.le_of_ble_eq_true rfl, Nat.le_of_ble_eq_true rfl⟩) hA hO (fun H locs hO => ?_)
                                          refine lv_icmp_eq (tgt := 723) hx hb dL_law_620 (by decide) (fun _ => ?_) (fun h => absurd rfl h)
                                          exact back X2 hI2 H locs hO ls hl
                                        · by_cases c_19 : xs (nI i).toNatClampNeg &&& 31 = 19
                                          · refine k_tabIn (tgt := 625) (off := 593) hx hb c_19 dL_law_32 (by decide) (by decide) rfl (by decide) ?_
                                            refine lv_aload_n hx hb dL_law_625 rfl (lv_at hl 1 rfl) ?_
                                            obtain ⟨r, X1, X2, hc1, hc2, hI2⟩ := ops_wipe  X hI
                                            refine k_ai (va_runV (As := []) (rest := []) ⟨hx, hb, hml, hown, hts⟩ (mX8_wipe l D L ac hLL X  _ _ hc1) (cwV 0 hts gL_X8_wipe rfl rfl rfl (by decide +kernel) ⟨Nat.le_of_ble_eq_true rfl, Nat.le_of_ble_eq_true rfl⟩) (k_pv (j := 0) hK hN hO (by decide) rfl rfl _) rfl rfl hl.1 rfl (lv_room (Nat.le_of_ble_eq_true rfl)) dL_law_626 ⟨Nat.le_of_ble_eq_true rfl, Nat.le_of_ble_eq_true rfl⟩) hA hO (fun H locs hO => ?_)
                                            refine lv_aload_n hx hb dL_law_629 rfl (lv_at hl 2 rfl) ?_
                                            refine k_ai (va_runV (As := []) (rest := [.int r]) ⟨hx, hb, hml, hown, hts⟩ (mX9_wipe l D L ac hLL X1  _ _ hc2) (cwV 0 hts gL_X9_wipe rfl rfl rfl (by decide +kernel) ⟨Nat.le_of_ble_eq_true rfl, Nat.le_of_ble_eq_true rfl⟩) (k_pv (j := 15) hK hN hO (by decide) rfl rfl _) rfl rfl hl.1 rfl (lv_room (Nat.le_of_ble_eq_true rfl)) dL_law_630 ⟨Nat.le_of_ble_eq_true rfl, Nat.le_of_ble_eq_true rfl⟩) hA hO (fun H locs hO => ?_)
                                            refine lv_icmp_eq (tgt := 723) hx hb dL_law_633 (by decide) (fun _ => ?_) (fun h => absurd rfl h)
                                            exact back X2 hI2 H locs hO ls hl
                                          · by_cases c_20 : xs (nI i).toNatClampNeg &&& 31 = 20
                                            · refine k_tabIn (tgt := 638) (off := 606) hx hb c_20 dL_law_32 (by decide) (by decide) rfl (by decide) ?_
                                              refine lv_aload_n hx hb dL_law_638 rfl (lv_at hl 1 rfl) ?_
                                              obtain ⟨r, X1, X2, hc1, hc2, hI2⟩ := ops_fault  X hI
                                              refine k_ai (va_runV (As := []) (rest := []) ⟨hx, hb, hml, hown, hts⟩ (mX8_fault l D L ac hLL X  _ _ hc1) (cwV 0 hts gL_X8_fault rfl rfl rfl (by decide +kernel) ⟨Nat.le_of_ble_eq_true rfl, Nat.le_of_ble_eq_true rfl⟩) (k_pv (j := 0) hK hN hO (by decide) rfl rfl _) rfl rfl hl.1 rfl (lv_room (Nat.le_of_ble_eq_true rfl)) dL_law_639 ⟨Nat.le_of_ble_eq_true rfl, Nat.le_of_ble_eq_true rfl⟩) hA hO (fun H locs hO => ?_)
                                              refine lv_aload_n hx hb dL_law_642 rfl (lv_at hl 2 rfl) ?_
                                              refine k_ai (va_runV (As := []) (rest := [.int r]) ⟨hx, hb, hml, hown, hts⟩ (mX9_fault l D L ac hLL X1  _ _ hc2) (cwV 0 hts gL_X9_fault rfl rfl rfl (by decide +kernel) ⟨Nat.le_of_ble_eq_true rfl, Nat.le_of_ble_eq_true rfl⟩) (k_pv (j := 15) hK hN hO (by decide) rfl rfl _) rfl rfl hl.1 rfl (lv_room (Nat.le_of_ble_eq_true rfl)) dL_law_643 ⟨Nat.le_of_ble_eq_true rfl, Nat.le_of_ble_eq_true rfl⟩) hA hO (fun H locs hO => ?_)
                                              refine lv_icmp_eq (tgt := 723) hx hb dL_law_646 (by decide) (fun _ => ?_) (fun h => absurd rfl h)
                                              exact back X2 hI2 H locs hO ls hl
                                            · by_cases c_21 : xs (nI i).toNatClampNeg &&& 31 = 21
                                              · refine k_tabIn (tgt := 651) (off := 619) hx hb c_21 dL_law_32 (by decide) (by decide) rfl (by decide) ?_
                                                refine lv_aload_n hx hb dL_law_651 rfl (lv_at hl 1 rfl) ?_
                                                obtain ⟨r, X1, X2, hc1, hc2, hI2⟩ := ops_carryOut  X hI
                                                refine k_ai (va_runV (As := []) (rest := []) ⟨hx, hb, hml, hown, hts⟩ (mX8_carryOut l D L ac hLL X  _ _ hc1) (cwV 0 hts gL_X8_carryOut rfl rfl rfl (by decide +kernel) ⟨Nat.le_of_ble_eq_true rfl, Nat.le_of_ble_eq_true rfl⟩) (k_pv (j := 0) hK hN hO (by decide) rfl rfl _) rfl rfl hl.1 rfl (lv_room (Nat.le_of_ble_eq_true rfl)) dL_law_652 ⟨Nat.le_of_ble_eq_true rfl, Nat.le_of_ble_eq_true rfl⟩) hA hO (fun H locs hO => ?_)
                                                refine lv_aload_n hx hb dL_law_655 rfl (lv_at hl 2 rfl) ?_
                                                refine k_ai (va_runV (As := []) (rest := [.int r]) ⟨hx, hb, hml, hown, hts⟩ (mX9_carryOut l D L ac hLL X1  _ _ hc2) (cwV 0 hts gL_X9_carryOut rfl rfl rfl (by decide +kernel) ⟨Nat.le_of_ble_eq_true rfl, Nat.le_of_ble_eq_true rfl⟩) (k_pv (j := 15) hK hN hO (by decide) rfl rfl _) rfl rfl hl.1 rfl (lv_room (Nat.le_of_ble_eq_true rfl)) dL_law_656 ⟨Nat.le_of_ble_eq_true rfl, Nat.le_of_ble_eq_true rfl⟩) hA hO (fun H locs hO => ?_)
                                                refine lv_icmp_eq (tgt := 723) hx hb dL_law_659 (by decide) (fun _ => ?_) (fun h => absurd rfl h)
                                                exact back X2 hI2 H locs hO ls hl
                                              · by_cases c_22 : xs (nI i).toNatClampNeg &&& 31 = 22
                                                · refine k_tabIn (tgt := 664) (off := 632) hx hb c_22 dL_law_32 (by decide) (by decide) rfl (by decide) ?_
                                                  refine lv_aload_n hx hb dL_law_664 rfl (lv_at hl 1 rfl) ?_
                                                  obtain ⟨r, X1, X2, hc1, hc2, hI2⟩ := ops_undo  X hI
                                                  refine k_ai (va_runV (As := []) (rest := []) ⟨hx, hb, hml, hown, hts⟩ (mX8_undo l D L ac hLL X  _ _ hc1) (cwV 0 hts gL_X8_undo rfl rfl rfl (by decide +kernel) ⟨Nat.le_of_ble_eq_true rfl, Nat.le_of_ble_eq_true rfl⟩) (k_pv (j := 0) hK hN hO (by decide) rfl rfl _) rfl rfl hl.1 rfl (lv_room (Nat.le_of_ble_eq_true rfl)) dL_law_665 ⟨Nat.le_of_ble_eq_true rfl, Nat.le_of_ble_eq_true rfl⟩) hA hO (fun H locs hO => ?_)
                                                  refine lv_aload_n hx hb dL_law_668 rfl (lv_at hl 2 rfl) ?_
                                                  refine k_ai (va_runV (As := []) (rest := [.int r]) ⟨hx, hb, hml, hown, hts⟩ (mX9_undo l D L ac hLL X1  _ _ hc2) (cwV 0 hts gL_X9_undo rfl rfl rfl (by decide +kernel) ⟨Nat.le_of_ble_eq_true rfl, Nat.le_of_ble_eq_true rfl⟩) (k_pv (j := 15) hK hN hO (by decide) rfl rfl _) rfl rfl hl.1 rfl (lv_room (Nat.le_of_ble_eq_true rfl)) dL_law_669 ⟨Nat.le_of_ble_eq_true rfl, Nat.le_of_ble_eq_true rfl⟩) hA hO (fun H locs hO => ?_)
                                                  refine lv_icmp_eq (tgt := 723) hx hb dL_law_672 (by decide) (fun _ => ?_) (fun h => absurd rfl h)
                                                  exact back X2 hI2 H locs hO ls hl
                                                · by_cases c_23 : xs (nI i).toNatClampNeg &&& 31 = 23
                                                  · refine k_tabIn (tgt := 677) (off := 645) hx hb c_23 dL_law_32 (by decide) (by decide) rfl (by decide) ?_
                                                    refine lv_aload_n hx hb dL_law_677 rfl (lv_at hl 1 rfl) ?_
                                                    refine lv_aload_n hx hb dL_law_678 rfl (lv_at hl 0 rfl) ?_
                                                    refine lv_iload_n hx hb dL_law_679 rfl (lv_at hl 3 rfl) ?_
                                                    refine lv_iconst (v := 1) hx hb dL_law_680 (by decide) ?_
                                                    refine lv_iadd hx hb dL_law_681 ?_
                                                    refine lv_tope (z := nI (i + 1)) (nI_add i 1) ?_
                                                    refine va_sld hx hb hX hbl hbA hO.2.2 (vp_in_nI (by omega) (by omega)) dL_law_682 ?_
                                                    obtain ⟨r, X1, X2, hc1, hc2, hI2⟩ := ops_save (xs (nI (i + 1)).toNatClampNeg) X hI
                                                    refine k_ai (va_runV (As := [.int (xs (nI (i + 1)).toNatClampNeg)]) (rest := []) ⟨hx, hb, hml, hown, hts⟩ (mX8_save l D L ac hLL X (xs (nI (i + 1)).toNatClampNeg) _ _ hc1) (cwV 1 hts gL_X8_save rfl rfl rfl (by decide +kernel) ⟨Nat.le_of_ble_eq_true rfl, Nat.le_of_ble_eq_true rfl⟩) (k_pv (j := 0) hK hN hO (by decide) rfl rfl _) rfl rfl hl.1 rfl (lv_room (Nat.le_of_ble_eq_true rfl)) dL_law_683 ⟨Nat.le_of_ble_eq_true rfl, Nat.le_of_ble_eq_true rfl⟩) hA hO (fun H locs hO => ?_)
                                                    refine lv_aload_n hx hb dL_law_686 rfl (lv_at hl 2 rfl) ?_
                                                    refine lv_aload_n hx hb dL_law_687 rfl (lv_at hl 0 rfl) ?_
                                                    refine lv_iload_n hx hb dL_law_688 rfl (lv_at hl 3 rfl) ?_
                                                    refine lv_iconst (v := 1) hx hb dL_law_689 (by decide) ?_
                                                    refine lv_iadd hx hb dL_law_690 ?_
                                                    refine lv_tope (z := nI (i + 1)) (nI_add i 1) ?_
                                                    refine va_sld hx hb hX hbl hbA hO.2.2 (vp_in_nI (by omega) (by omega)) dL_law_691 ?_
                                                    refine k_ai (va_runV (As := [.int (xs (nI (i + 1)).toNatClampNeg)]) (rest := [.int r]) ⟨hx, hb, hml, hown, hts⟩ (mX9_save l D L ac hLL X1 (xs (nI (i + 1)).toNatClampNeg) _ _ hc2) (cwV 1 hts gL_X9_save rfl rfl rfl (by decide +kernel) ⟨Nat.le_of_ble_eq_true rfl, Nat.le_of_ble_eq_true rfl⟩) (k_pv (j := 15) hK hN hO (by decide) rfl rfl _) rfl rfl hl.1 rfl (lv_room (Nat.le_of_ble_eq_true rfl)) dL_law_692 ⟨Nat.le_of_ble_eq_true rfl, Nat.le_of_ble_eq_true rfl⟩) hA hO (fun H locs hO => ?_)
                                                    refine lv_icmp_eq (tgt := 723) hx hb dL_law_695 (by decide) (fun _ => ?_) (fun h => absurd rfl h)
                                                    exact back X2 hI2 H locs hO ls hl
                                                  · by_cases c_24 : xs (nI i).toNatClampNeg &&& 31 = 24
                                                    · refine k_tabIn (tgt := 700) (off := 668) hx hb c_24 dL_law_32 (by decide) (by decide) rfl (by decide) ?_
                                                      refine lv_aload_n hx hb dL_law_700 rfl (lv_at hl 1 rfl) ?_
                                                      refine lv_aload_n hx hb dL_law_701 rfl (lv_at hl 0 rfl) ?_
                                                      refine lv_iload_n hx hb dL_law_702 rfl (lv_at hl 3 rfl) ?_
                                                      refine lv_iconst (v := 1) hx hb dL_law_703 (by decide) ?_
                                                      refine lv_iadd hx hb dL_law_704 ?_
                                                      refine lv_tope (z := nI (i + 1)) (nI_add i 1) ?_
                                                      refine va_sld hx hb hX hbl hbA hO.2.2 (vp_in_nI (by omega) (by omega)) dL_law_705 ?_
                                                      obtain ⟨r, X1, X2, hc1, hc2, hI2⟩ := ops_restore (xs (nI (i + 1)).toNatClampNeg) X hI
                                                      refine k_ai (va_runV (As := [.int (xs (nI (i + 1)).toNatClampNeg)]) (rest := []) ⟨hx, hb, hml, hown, hts⟩ (mX8_restore l D L ac hLL X (xs (nI (i + 1)).toNatClampNeg) _ _ hc1) (cwV 1 hts gL_X8_restore rfl rfl rfl (by decide +kernel) ⟨Nat.le_of_ble_eq_true rfl, Nat.le_of_ble_eq_true rfl⟩) (k_pv (j := 0) hK hN hO (by decide) rfl rfl _) rfl rfl hl.1 rfl (lv_room (Nat.le_of_ble_eq_true rfl)) dL_law_706 ⟨Nat.le_of_ble_eq_true rfl, Nat.le_of_ble_eq_true rfl⟩) hA hO (fun H locs hO => ?_)
                                                      refine lv_aload_n hx hb dL_law_709 rfl (lv_at hl 2 rfl) ?_
                                                      refine lv_aload_n hx hb dL_law_710 rfl (lv_at hl 0 rfl) ?_
                                                      refine lv_iload_n hx hb dL_law_711 rfl (lv_at hl 3 rfl) ?_
                                                      refine lv_iconst (v := 1) hx hb dL_law_712 (by decide) ?_
                                                      refine lv_iadd hx hb dL_law_713 ?_
                                                      refine lv_tope (z := nI (i + 1)) (nI_add i 1) ?_
                                                      refine va_sld hx hb hX hbl hbA hO.2.2 (vp_in_nI (by omega) (by omega)) dL_law_714 ?_
                                                      refine k_ai (va_runV (As := [.int (xs (nI (i + 1)).toNatClampNeg)]) (rest := [.int r]) ⟨hx, hb, hml, hown, hts⟩ (mX9_restore l D L ac hLL X1 (xs (nI (i + 1)).toNatClampNeg) _ _ hc2) (cwV 1 hts gL_X9_restore rfl rfl rfl (by decide +kernel) ⟨Nat.le_of_ble_eq_true rfl, Nat.le_of_ble_eq_true rfl⟩) (k_pv (j := 15) hK hN hO (by decide) rfl rfl _) rfl rfl hl.1 rfl (lv_room (Nat.le_of_ble_eq_true rfl)) dL_law_715 ⟨Nat.le_of_ble_eq_true rfl, Nat.le_of_ble_eq_true rfl⟩) hA hO (fun H locs hO => ?_)
                                                      refine lv_icmp_eq (tgt := 723) hx hb dL_law_718 (by decide) (fun _ => ?_) (fun h => absurd rfl h)
                                                      exact back X2 hI2 H locs hO ls hl
                                                    · refine lv_tableOut (tgt := 723) hx hb dL_law_32 (tb_out 25 (by decide) (fun k hk => ?_)) (by decide) ?_
                                                      · match k, hk with
                                                        | 0, _ => exact c_0
                                                        | 1, _ => exact c_1
                                                        | 2, _ => exact c_2
                                                        | 3, _ => exact c_3
                                                        | 4, _ => exact c_4
                                                        | 5, _ => exact c_5
                                                        | 6, _ => exact c_6
                                                        | 7, _ => exact c_7
                                                        | 8, _ => exact c_8
                                                        | 9, _ => exact c_9
                                                        | 10, _ => exact c_10
                                                        | 11, _ => exact c_11
                                                        | 12, _ => exact c_12
                                                        | 13, _ => exact c_13
                                                        | 14, _ => exact c_14
                                                        | 15, _ => exact c_15
                                                        | 16, _ => exact c_16
                                                        | 17, _ => exact c_17
                                                        | 18, _ => exact c_18
                                                        | 19, _ => exact c_19
                                                        | 20, _ => exact c_20
                                                        | 21, _ => exact c_21
                                                        | 22, _ => exact c_22
                                                        | 23, _ => exact c_23
                                                        | 24, _ => exact c_24
                                                        | n + 25, hk => exact absurd hk (by omega)
                                                      exact back X hI H locs hO ls hl
