/-! THE CLAIM OUT OF ONE WALK OF THE LAW'S BODY. Your part is whole_start (and what it stands on); all else here is the same for every law, but numbers. -/
def R_law : String := "PoisonPilesLaw"
def lw_P (b : Addr) (xs : List Int32) (args : Array Value) (s : State) : Prop := args = #[.ref b] ∧ s.IntsAt b xs ∧ xs.length ≤ 260 ∧ (Jvm.Cond.and given_1 narrow_1).before args s = true
def lw_Q (_ : Array Value) (s : State) (o : Outcome) (t : State) : Prop := o = .returned (some (.int 1)) ∧ Framed s o t [] 600000 7302250
def lw_Z (below : List Frame) (a : Array Value) (s : State) : State → Prop := fun t => ∃ o, t.status = .running ∧ Ended t below o ∧ lw_Q a s o t
/-- the law's own end, with 1 on the stack, nothing written that was there before, its room as the claim has it -/
theorem lw_ret {p : Program} {l : Launch} {e : Env} {s : State} {m : MethodId} {below : List Frame} {meth : Method} {c : Code} {b : Nat} (hx : p.tables.exec = Jvm.exec) (hb : c.code = code) (hr : meth.sig.returnType = ret) (hlocks : meth.locks = false) {pc : Nat} {H : Heap} {ls : Array Slot} (hdg : decode code pc = .ok (.ireturn, 1)) : W p l e room_1 s m #[Value.ref b] below meth c H [] 600000 7302250 (lw_Z below #[Value.ref b] s) (F0 m pc ls [.int 1]) := by
  intro T hT X
  obtain ⟨fs, hret, hrun, hended, hW, hframe⟩ := X.leave (v := some (.int 1)) (hlocks := hlocks) (fun h => by rw [hr] at h; cases h)
  have hmeth' : T.vm.method? m = some meth := X.method'
  refine ⟨T.setFrames fs, ?_, .returned (some (.int 1)), hrun, hended, rfl, ⟨_, rfl⟩, hW, hframe⟩
  jvm_step X.here [X.here.top, hx, hb, hdg, hmeth', hr, ret, narrow_b1]
  (try refine ⟨rfl, ?_⟩); (try refine ⟨rfl, ?_⟩)
  first | (intro acts; rw [hret _ acts rfl rfl rfl]) | rw [hret _ _ rfl rfl rfl]
  exact Steps.refl _
/-- what holds at the law's entry: the machine, the code, the tables' words (any of lw_tbl by 'hts w (by decide +kernel)'), the script of L ints xs at the cell b, what the Statement gives of the start (any of its parts by flat_of_before) -/
def lw_At (p : Program) (s : State) (m : MethodId) (meth : Method) (c : Code) (b L : Nat) (xs : Nat → Int32) : Prop :=
  p.tables.exec = Jvm.exec ∧ c.code = code ∧ meth.sig.returnType = ret ∧ c.maxLocals = 14 ∧ s.vm.findClass R_law = some m.cls ∧ (∀ w ∈ lw_tbl, w.before #[Value.ref b] s = true) ∧ va_X b L xs s s.heap ∧ b < s.heap.size ∧ meth.locks = false ∧ (Jvm.Cond.and given_1 narrow_1).before #[Value.ref b] s = true
/-! WHAT STANDS THROUGHOUT THE LAW'S RUN; the script's places -/
def lf_At (p : Program) (s : State) (m : MethodId) (meth : Method) (c : Code) (b N : Nat) (xs : Nat → Int32) (D : va_G) (L : Nat → Nat) (ac : Nat → ClassId) : Prop := lw_At p s m meth c b N xs ∧ N ≤ 260 ∧ (∀ q, fr L q → s.heap.size ≤ q) ∧ va_K D vwCl (tys ac) s ∧ NX s
def cellF (xs : Nat → Int32) (N : Nat) (k : Int32) : Int32 := if nI N ≤ k then 7919 * (k + 3) * (k + 11) else xs k.toNatClampNeg
def zn {β : Type} (v : Int32) (x : Option β) : Option β := if v < 0 then none else x
theorem zn_some {β : Type} {v : Int32} {x : Option β} {z : β} (h : zn v x = some z) : ¬ v < 0 ∧ x = some z := by
  unfold zn at h
  split at h
  · cases h
  · next hc => exact ⟨hc, h⟩
theorem zn_ok {β : Type} {v : Int32} {x : Option β} (h : ¬ v < 0) : zn v x = x := if_neg h
theorem nI_nat {N : Nat} (h : N ≤ 260) : (nI N).toNatClampNeg = N := nI_clamp (by omega)
theorem cell_in {N : Nat} (hN : N ≤ 260) {k : Int32} (h0 : ¬ k < 0) (h : ¬ nI N ≤ k) : vp_in k N := by
  have h0' : ¬ k.toInt < 0 := fun q => h0 (Int32.lt_iff_toInt_lt.mpr q)
  have h' : ¬ (nI N).toInt ≤ k.toInt := fun q => h (Int32.le_iff_toInt_le.mpr q)
  rw [nI_toInt (by omega)] at h'
  rintro (q | q)
  · exact h0 q
  · have : k.toNatClampNeg = k.toInt.toNat := rfl
    omega
/-- the script, seen from a method that is given it -/
theorem mL_cell (l : Launch) (D : va_G) (L : Nat → Nat) (ac : Nat → ClassId) (hL : LL L) (X : XM) (b N : Nat) (xs : Nat → Int32) (hN2 : N ≤ 260) (k : Int32) (h0 : ¬ k < 0) : Met l yL_cell wsL_cell ({ frames := 0, cells := 0, slots := 0, locals := 0 }) (va_Pc [.ref b, .int k] (fun U => St D L ac X U ∧ va_X b N xs U U.heap ∧ b < U.heap.size ∧ ¬ fr L b)) (va_Qi (fun (r : Int32) (Y : XM) => r = cellF xs N k ∧ Y = X) (fun (Y : XM) t => St D L ac Y t) (fr L)) 0 0 (fr L) := by
  refine Met.ofW (cc := cL_cell) (maxL := 2) (ret := some .int) (by decide +kernel) rfl ?_
  intro p e s m args below meth c s₁ B hml hv
  obtain ⟨rfl, ⟨hP, hst, hK, hN⟩, hX, hbl, hbA⟩ := hv
  have hx := B.exec
  have hb := B.bytes
  have hr := B.returns
  have hlocks := B.notSynchronized
  have hO : Oh D L ac X (fr L) s.heap s.heap [] := ⟨hP, hst, va_S.rf⟩
  have hl := lv_entry [.ref b, .int k] (n := 2) (Nat.le_of_ble_eq_true rfl)
  rw [lg_entry_eq]
  generalize (lg_sl [.ref b, .int k] ++ List.replicate (2 - (lg_sl [.ref b, .int k]).length) Slot.unset).toArray = ls at hl ⊢
  have hl : lv_has ls 2 [(0, .ref b), (1, .int k)] := hl
  refine lv_iload_n hx hb dL_cell_0 rfl (lv_at hl 1 rfl) ?_
  refine lv_aload_n hx hb dL_cell_1 rfl (lv_at hl 0 rfl) ?_
  refine va_slen hx hb hX hbl hbA hO.2.2 dL_cell_2 ?_
  refine lv_icmp_ge (tgt := 12) hx hb dL_cell_3 (by decide) (fun h => ?_) (fun h => ?_)
  · refine lv_sipush (v := 7919) hx hb dL_cell_12 (by decide) ?_
    refine lv_iload_n hx hb dL_cell_15 rfl (lv_at hl 1 rfl) ?_
    refine lv_iconst (v := 3) hx hb dL_cell_16 (by decide) ?_
    refine lv_iadd hx hb dL_cell_17 ?_
    refine lv_imul hx hb dL_cell_18 ?_
    refine lv_iload_n hx hb dL_cell_19 rfl (lv_at hl 1 rfl) ?_
    refine lv_bipush (v := 11) hx hb dL_cell_20 (by decide) ?_
    refine lv_iadd hx hb dL_cell_22 ?_
    refine lv_imul hx hb dL_cell_23 ?_
    refine lv_tope (z := cellF xs N k) (by have h9 : nI N ≤ k := h; unfold cellF; rw [if_pos h9]) ?_
    exact e_i hx hb hr hK hN hO hlocks dL_cell_24
  · refine lv_aload_n hx hb dL_cell_6 rfl (lv_at hl 0 rfl) ?_
    refine lv_iload_n hx hb dL_cell_7 rfl (lv_at hl 1 rfl) ?_
    refine va_sld hx hb hX hbl hbA hO.2.2 (cell_in hN2 h0 h) dL_cell_8 ?_
    refine lv_goto (tgt := 24) hx hb dL_cell_9 (by decide) ?_
    refine lv_tope (z := cellF xs N k) (by have h9 : ¬ nI N ≤ k := h; unfold cellF; rw [if_neg h9]) ?_
    exact e_i hx hb hr hK hN hO hlocks dL_cell_24
theorem k_pcell {s : State} {H : Heap} {D : va_G} {L : Nat → Nat} {ac : Nat → ClassId} {X : XM} {A : Nat → Prop} {locs : List Loc} {b N : Nat} {xs : Nat → Int32} (hK : va_K D vwCl (tys ac) s) (hN : NX s) (hO : Oh D L ac X A s.heap H locs) (hX : va_X b N xs s s.heap) (hbl : b < s.heap.size) (hbA : ¬ A b) (hA : ∀ q, fr L q → A q) (As : List Value) : PreS s H (va_Pc As (fun U => St D L ac X U ∧ va_X b N xs U U.heap ∧ b < U.heap.size ∧ ¬ fr L b)) As :=
  ⟨fun a U g mk z => ⟨z.1, z.2.1.calling g mk a, va_X.moved (u := U) (U := U.calling g mk a) (Vm.Alike.refl U.vm) z.2.2.1, z.2.2.2⟩, fun U hU hW => ⟨rfl, St.of hO hK hN hU hW, by rw [hU]; exact va_X.moved hW.alike (hX.kept (hO.2.2.2.1 b hbl hbA)), by rw [hU]; exact Nat.lt_of_lt_of_le hbl hO.2.2.1, fun q => hbA (hA b q)⟩⟩
theorem law_end {p : Program} {l : Launch} {e : Env} {s : State} {m : MethodId} {below : List Frame} {meth : Method} {c : Code} {D : va_G} {L : Nat → Nat} {ac : Nat → ClassId} {b N : Nat} {xs : Nat → Int32} (C0 : lw_At p s m meth c b N xs) {X : XM} {H : Heap} {locs : List Loc} (hO : Oh D L ac X (fun q : Nat => s.heap.size ≤ q) s.heap H locs) {pc : Nat} (hd : decode cL_law pc = .ok (.ireturn, 1)) {ls : Array Slot} : W p l e room_1 s m #[Value.ref b] below meth c H locs 103 47387 (lw_Z below #[Value.ref b] s) (F0 m pc ls [.int 1]) := by
  obtain ⟨hx, hb, hr, hml, hown, hts0, hX, hbl, hlocks, hgv⟩ := id C0
  refine va_forget (fun q hq => hO.2.2.2.2 q hq) ?_
  refine W.widen (k := 600000) (n := 7302250) (Nat.le_of_ble_eq_true rfl) (Nat.le_of_ble_eq_true rfl) ?_
  exact lw_ret hx hb hr hlocks hd

def fL_law_309 (xs : Nat → Int32) (N : Nat) (k45 : Int64 → Int32 → XM → Option Unit) : Nat → Int64 → Int32 → Int32 → Int32 → Int64 → Int32 → Int32 → Int64 → XM → Option Unit
  | 0, _, _, _, _, _, _, _, _, _ => none
  | n + 1, x2, x4, x5, x6, x7, x9, x10, x11, X => k45 x2 (x4 + 1) X
set_option maxHeartbeats 4000000 in
set_option maxRecDepth 100000 in
theorem wL_law_309 {p : Program} {l : Launch} {e : Env} {s : State} {m : MethodId} {below : List Frame} {meth : Method} {c : Code} {D : va_G} {L : Nat → Nat} {ac : Nat → ClassId} {b N : Nat} {xs : Nat → Int32} (hL : LL L) (F : lf_At p s m meth c b N xs D L ac) (k45 : Int64 → Int32 → XM → Option Unit) (hk45 : ∀ (x2 : Int64) (x4 : Int32) (X : XM) (H : Heap) (locs : List Loc) (ls : Array Slot), Oh D L ac X (fun q : Nat => s.heap.size ≤ q) s.heap H locs → lv_has ls 14 [(0, .ref b), (1, .ref (L 0)), (2, .long x2), (4, .int x4)] → k45 x2 x4 X = some () → W p l e room_1 s m #[Value.ref b] below meth c H locs 103 47387 (lw_Z below #[Value.ref b] s) (F0 m 45 ls [])) : ∀ (n : Nat) (x2 : Int64) (x4 : Int32) (x5 : Int32) (x6 : Int32) (x7 : Int64) (x9 : Int32) (x10 : Int32) (x11 : Int64) (X : XM) (H : Heap) (locs : List Loc) (ls : Array Slot), Oh D L ac X (fun q : Nat => s.heap.size ≤ q) s.heap H locs → lv_has ls 14 [(0, .ref b), (1, .ref (L 0)), (2, .long x2), (4, .int x4), (5, .int x5), (6, .int x6), (7, .long x7), (9, .int x9), (10, .int x10), (11, .long x11)] → fL_law_309 xs N k45 n x2 x4 x5 x6 x7 x9 x10 x11 X = some () → W p l e room_1 s m #[Value.ref b] below meth c H locs 103 47387 (lw_Z below #[Value.ref b] s) (F0 m 309 ls []) := by
  obtain ⟨C0, hN2, hA, hK, hN⟩ := id F
  obtain ⟨hx, hb, hr, hml, hown, hts0, hX, hbl, hlocks, hgv⟩ := id C0
  have hts : ∀ w ∈ wsL_law, w.before #[Value.ref b] s = true := fun w h => hts0 w (wsL_law_in w h)
  have hbA : ¬ (fun q : Nat => s.heap.size ≤ q) b := Nat.not_le.mpr hbl
  intro n
  induction n with
  | zero => intro x2 x4 x5 x6 x7 x9 x10 x11 X H locs ls hO hl hf; simp [fL_law_309] at hf
  | succ n ih =>
    intro x2 x4 x5 x6 x7 x9 x10 x11 X H locs ls hO hl hf
    rw [fL_law_309] at hf
    refine lv_iinc (v := x4 + 1) (lv' := [(4, .int (x4 + 1)), (0, .ref b), (1, .ref (L 0)), (2, .long x2), (5, .int x5), (6, .int x6), (7, .long x7), (9, .int x9), (10, .int x10), (11, .long x11)]) hx hb dL_law_309 hl (k := 3) rfl rfl (by decide) rfl (fun ls_1 hl_1 => ?_)
    clear hl
    refine lv_goto (tgt := 45) hx hb dL_law_312 (by decide) ?_
    exact hk45 _ _ _  _ _ _ hO (lv_sub hl_1 [1, 2, 3, 0] rfl) hf
def fL_law_288 (xs : Nat → Int32) (N : Nat) (k45 : Int64 → Int32 → XM → Option Unit) : Nat → Int64 → Int32 → Int32 → Int32 → Int64 → Int32 → Int32 → Int64 → XM → Option Unit
  | 0, _, _, _, _, _, _, _, _, _ => none
  | n + 1, x2, x4, x5, x6, x7, x9, x10, x11, X => if ((o_shr x5 10) &&& 7) = 1 then zi (fX8_save 0 X) (fun r_4 X_3 => fL_law_309 xs N k45 fuel x11 x4 x5 x6 x7 x9 x10 x11 X_3) else fL_law_309 xs N k45 fuel x2 x4 x5 x6 x7 x9 x10 x11 X
set_option maxHeartbeats 4000000 in
set_option maxRecDepth 100000 in
theorem wL_law_288 {p : Program} {l : Launch} {e : Env} {s : State} {m : MethodId} {below : List Frame} {meth : Method} {c : Code} {D : va_G} {L : Nat → Nat} {ac : Nat → ClassId} {b N : Nat} {xs : Nat → Int32} (hL : LL L) (F : lf_At p s m meth c b N xs D L ac) (k45 : Int64 → Int32 → XM → Option Unit) (hk45 : ∀ (x2 : Int64) (x4 : Int32) (X : XM) (H : Heap) (locs : List Loc) (ls : Array Slot), Oh D L ac X (fun q : Nat => s.heap.size ≤ q) s.heap H locs → lv_has ls 14 [(0, .ref b), (1, .ref (L 0)), (2, .long x2), (4, .int x4)] → k45 x2 x4 X = some () → W p l e room_1 s m #[Value.ref b] below meth c H locs 103 47387 (lw_Z below #[Value.ref b] s) (F0 m 45 ls [])) : ∀ (n : Nat) (x2 : Int64) (x4 : Int32) (x5 : Int32) (x6 : Int32) (x7 : Int64) (x9 : Int32) (x10 : Int32) (x11 : Int64) (X : XM) (H : Heap) (locs : List Loc) (ls : Array Slot), Oh D L ac X (fun q : Nat => s.heap.size ≤ q) s.heap H locs → lv_has ls 14 [(0, .ref b), (1, .ref (L 0)), (2, .long x2), (4, .int x4), (5, .int x5), (6, .int x6), (7, .long x7), (9, .int x9), (10, .int x10), (11, .long x11)] → fL_law_288 xs N k45 n x2 x4 x5 x6 x7 x9 x10 x11 X = some () → W p l e room_1 s m #[Value.ref b] below meth c H locs 103 47387 (lw_Z below #[Value.ref b] s) (F0 m 288 ls []) := by
  obtain ⟨C0, hN2, hA, hK, hN⟩ := id F
  obtain ⟨hx, hb, hr, hml, hown, hts0, hX, hbl, hlocks, hgv⟩ := id C0
  have hts : ∀ w ∈ wsL_law, w.before #[Value.ref b] s = true := fun w h => hts0 w (wsL_law_in w h)
  have hbA : ¬ (fun q : Nat => s.heap.size ≤ q) b := Nat.not_le.mpr hbl
  intro n
  induction n with
  | zero => intro x2 x4 x5 x6 x7 x9 x10 x11 X H locs ls hO hl hf; simp [fL_law_288] at hf
  | succ n ih =>
    intro x2 x4 x5 x6 x7 x9 x10 x11 X H locs ls hO hl hf
    rw [fL_law_288] at hf
    refine lv_iload hx hb dL_law_288 (lv_at hl 4 rfl) ?_
    refine lv_bipush (v := 10) hx hb dL_law_290 (by decide) ?_
    refine lv_ishr hx hb dL_law_292 ?_
    refine lv_bipush (v := 7) hx hb dL_law_293 (by decide) ?_
    refine lv_iand hx hb dL_law_295 ?_
    refine lv_iconst (v := 1) hx hb dL_law_296 (by decide) ?_
    refine lv_icmp_ne (tgt := 309) hx hb dL_law_297 (by decide) (fun c_2 => ?_) (fun c_2 => ?_)
    · rw [if_neg c_2] at hf
      exact wL_law_309 hL F _ hk45 fuel _ _ _ _ _ _ _ _ _  _ _ _ hO (lv_sub hl [0, 1, 2, 3, 4, 5, 6, 7, 8, 9] rfl) hf
    · rw [if_pos c_2] at hf
      refine lv_aload_n hx hb dL_law_300 rfl (lv_at hl 1 rfl) ?_
      refine lv_iconst (v := 0) hx hb dL_law_301 (by decide) ?_
      replace hf := zi_some hf
      obtain ⟨r_4, X_3, hc_3, hf⟩ := hf
      refine k_ai (va_runV (As := [.int 0]) (rest := []) ⟨hx, hb, hml, hown, hts⟩ (mX8_save l D L ac hL _ 0 _ _ hc_3) (cwV 1 hts gL_law_X8_save rfl rfl rfl (by decide +kernel) ⟨Nat.le_of_ble_eq_true rfl, Nat.le_of_ble_eq_true rfl⟩) (k_pv (j := 0) hK hN hO (by decide) rfl rfl _) rfl rfl hl.1 rfl (lv_room (Nat.le_of_ble_eq_true rfl)) dL_law_302 ⟨Nat.le_of_ble_eq_true rfl, Nat.le_of_ble_eq_true rfl⟩) hA hO (fun H_5 locs_5 hO_5 => ?_)
      clear hO
      refine lv_pop hx hb dL_law_305 rfl ?_
      refine lv_lload hx hb dL_law_306 (lv_at hl 9 rfl) ?_
      refine lv_lstore_n (lv' := [(2, .long x11), (0, .ref b), (1, .ref (L 0)), (4, .int x4), (5, .int x5), (6, .int x6), (7, .long x7), (9, .int x9), (10, .int x10), (11, .long x11)]) hx hb dL_law_308 rfl hl (by decide) rfl (fun ls_6 hl_6 => ?_)
      clear hl
      exact wL_law_309 hL F _ hk45 fuel _ _ _ _ _ _ _ _ _  _ _ _ hO_5 (lv_sub hl_6 [1, 2, 0, 3, 4, 5, 6, 7, 8, 9] rfl) hf
def fL_law_261 (xs : Nat → Int32) (N : Nat) (k45 : Int64 → Int32 → XM → Option Unit) : Nat → Int64 → Int32 → Int32 → Int32 → Int64 → Int32 → Int32 → Int64 → XM → Option Unit
  | 0, _, _, _, _, _, _, _, _, _ => none
  | n + 1, x2, x4, x5, x6, x7, x9, x10, x11, X => if (o_rem x4 4) = 3 then zi (fL_holds X) (fun r_9 X_8 => if r_9 = 0 then none else zi (fL_told X_8) (fun r_13 X_12 => if (lg_cmp r_13 x11) = 0 then fL_law_288 xs N k45 fuel x2 x4 x5 x6 x7 x9 x10 x11 X_12 else none)) else fL_law_288 xs N k45 fuel x2 x4 x5 x6 x7 x9 x10 x11 X
set_option maxHeartbeats 4000000 in
set_option maxRecDepth 100000 in
theorem wL_law_261 {p : Program} {l : Launch} {e : Env} {s : State} {m : MethodId} {below : List Frame} {meth : Method} {c : Code} {D : va_G} {L : Nat → Nat} {ac : Nat → ClassId} {b N : Nat} {xs : Nat → Int32} (hL : LL L) (F : lf_At p s m meth c b N xs D L ac) (k45 : Int64 → Int32 → XM → Option Unit) (hk45 : ∀ (x2 : Int64) (x4 : Int32) (X : XM) (H : Heap) (locs : List Loc) (ls : Array Slot), Oh D L ac X (fun q : Nat => s.heap.size ≤ q) s.heap H locs → lv_has ls 14 [(0, .ref b), (1, .ref (L 0)), (2, .long x2), (4, .int x4)] → k45 x2 x4 X = some () → W p l e room_1 s m #[Value.ref b] below meth c H locs 103 47387 (lw_Z below #[Value.ref b] s) (F0 m 45 ls [])) : ∀ (n : Nat) (x2 : Int64) (x4 : Int32) (x5 : Int32) (x6 : Int32) (x7 : Int64) (x9 : Int32) (x10 : Int32) (x11 : Int64) (X : XM) (H : Heap) (locs : List Loc) (ls : Array Slot), Oh D L ac X (fun q : Nat => s.heap.size ≤ q) s.heap H locs → lv_has ls 14 [(0, .ref b), (1, .ref (L 0)), (2, .long x2), (4, .int x4), (5, .int x5), (6, .int x6), (7, .long x7), (9, .int x9), (10, .int x10), (11, .long x11)] → fL_law_261 xs N k45 n x2 x4 x5 x6 x7 x9 x10 x11 X = some () → W p l e room_1 s m #[Value.ref b] below meth c H locs 103 47387 (lw_Z below #[Value.ref b] s) (F0 m 261 ls []) := by
  obtain ⟨C0, hN2, hA, hK, hN⟩ := id F
  obtain ⟨hx, hb, hr, hml, hown, hts0, hX, hbl, hlocks, hgv⟩ := id C0
  have hts : ∀ w ∈ wsL_law, w.before #[Value.ref b] s = true := fun w h => hts0 w (wsL_law_in w h)
  have hbA : ¬ (fun q : Nat => s.heap.size ≤ q) b := Nat.not_le.mpr hbl
  intro n
  induction n with
  | zero => intro x2 x4 x5 x6 x7 x9 x10 x11 X H locs ls hO hl hf; simp [fL_law_261] at hf
  | succ n ih =>
    intro x2 x4 x5 x6 x7 x9 x10 x11 X H locs ls hO hl hf
    rw [fL_law_261] at hf
    refine lv_iload hx hb dL_law_261 (lv_at hl 3 rfl) ?_
    refine lv_iconst (v := 4) hx hb dL_law_263 (by decide) ?_
    refine lv_irem hx hb dL_law_264 (by decide) ?_
    refine lv_iconst (v := 3) hx hb dL_law_265 (by decide) ?_
    refine lv_icmp_ne (tgt := 288) hx hb dL_law_266 (by decide) (fun c_7 => ?_) (fun c_7 => ?_)
    · rw [if_neg c_7] at hf
      exact wL_law_288 hL F _ hk45 fuel _ _ _ _ _ _ _ _ _  _ _ _ hO (lv_sub hl [0, 1, 2, 3, 4, 5, 6, 7, 8, 9] rfl) hf
    · rw [if_pos c_7] at hf
      refine lv_aload_n hx hb dL_law_269 rfl (lv_at hl 1 rfl) ?_
      replace hf := zi_some hf
      obtain ⟨r_9, X_8, hc_8, hf⟩ := hf
      refine k_ai (va_runS (As := [.ref (L 0)]) (rest := []) ⟨hx, hb, hml, hown, hts⟩ (mL_holds l D L ac hL _  _ _ hc_8) (va_cwS 1 hts gL_law_L_holds rfl rfl rfl (by decide +kernel) ⟨Nat.le_of_ble_eq_true rfl, Nat.le_of_ble_eq_true rfl⟩) (k_ps hK hN hO _) rfl rfl hl.1 rfl (lv_room (Nat.le_of_ble_eq_true rfl)) dL_law_270 ⟨Nat.le_of_ble_eq_true rfl, Nat.le_of_ble_eq_true rfl⟩) hA hO (fun H_10 locs_10 hO_10 => ?_)
      clear hO
      refine lv_if_eq (tgt := 286) hx hb dL_law_273 (by decide) (fun c_11 => ?_) (fun c_11 => ?_)
      · rw [if_pos c_11] at hf
        subst c_11
        refine lv_iconst (v := 0) hx hb dL_law_286 (by decide) ?_
        cases hf
      · rw [if_neg c_11] at hf
        refine lv_aload_n hx hb dL_law_276 rfl (lv_at hl 1 rfl) ?_
        replace hf := zi_some hf
        obtain ⟨r_13, X_12, hc_12, hf⟩ := hf
        refine k_al (va_runS (As := [.ref (L 0)]) (rest := []) ⟨hx, hb, hml, hown, hts⟩ (mL_told l D L ac hL _  _ _ hc_12) (va_cwS 1 hts gL_law_L_told rfl rfl rfl (by decide +kernel) ⟨Nat.le_of_ble_eq_true rfl, Nat.le_of_ble_eq_true rfl⟩) (k_ps hK hN hO_10 _) rfl rfl hl.1 rfl (lv_room (Nat.le_of_ble_eq_true rfl)) dL_law_277 ⟨Nat.le_of_ble_eq_true rfl, Nat.le_of_ble_eq_true rfl⟩) hA hO_10 (fun H_14 locs_14 hO_14 => ?_)
        clear hO_10
        refine lv_lload hx hb dL_law_280 (lv_at hl 9 rfl) ?_
        refine W.lcmp hx hb dL_law_282 ?_
        refine lv_if_eq (tgt := 288) hx hb dL_law_283 (by decide) (fun c_15 => ?_) (fun c_15 => ?_)
        · rw [if_pos c_15] at hf
          exact wL_law_288 hL F _ hk45 fuel _ _ _ _ _ _ _ _ _  _ _ _ hO_14 (lv_sub hl [0, 1, 2, 3, 4, 5, 6, 7, 8, 9] rfl) hf
        · rw [if_neg c_15] at hf
          refine lv_iconst (v := 0) hx hb dL_law_286 (by decide) ?_
          cases hf
def fL_law_192 (xs : Nat → Int32) (N : Nat) (k45 : Int64 → Int32 → XM → Option Unit) : Nat → Int64 → Int32 → Int32 → Int32 → Int64 → Int32 → Int32 → Int64 → XM → Option Unit
  | 0, _, _, _, _, _, _, _, _, _ => none
  | n + 1, x2, x4, x5, x6, x7, x9, x10, x11, X => if x10 < 0 then fL_law_261 xs N k45 fuel x2 x4 x5 x6 x7 x9 x10 x11 X else if ((o_shr x5 9) &&& 1) = 0 then zi (fX8_count 10 X) (fun r_19 X_18 => zl (r_19 - 1) (fun v_21 => zi (fX8_undo X_18) (fun r_24 X_23 => if r_24 = v_21 then zi (fL_told X_23) (fun r_28 X_27 => if (lg_cmp r_28 x7) = 0 then zi (fL_act x5 x6 X_27) (fun r_32 X_31 => if r_32 = x10 then zi (fL_told X_31) (fun r_36 X_35 => if (lg_cmp r_36 x11) = 0 then fL_law_261 xs N k45 fuel x2 x4 x5 x6 x7 x9 x10 x11 X_35 else none) else none) else none) else none))) else fL_law_261 xs N k45 fuel x2 x4 x5 x6 x7 x9 x10 x11 X
set_option maxHeartbeats 4000000 in
set_option maxRecDepth 100000 in
theorem wL_law_192 {p : Program} {l : Launch} {e : Env} {s : State} {m : MethodId} {below : List Frame} {meth : Method} {c : Code} {D : va_G} {L : Nat → Nat} {ac : Nat → ClassId} {b N : Nat} {xs : Nat → Int32} (hL : LL L) (F : lf_At p s m meth c b N xs D L ac) (k45 : Int64 → Int32 → XM → Option Unit) (hk45 : ∀ (x2 : Int64) (x4 : Int32) (X : XM) (H : Heap) (locs : List Loc) (ls : Array Slot), Oh D L ac X (fun q : Nat => s.heap.size ≤ q) s.heap H locs → lv_has ls 14 [(0, .ref b), (1, .ref (L 0)), (2, .long x2), (4, .int x4)] → k45 x2 x4 X = some () → W p l e room_1 s m #[Value.ref b] below meth c H locs 103 47387 (lw_Z below #[Value.ref b] s) (F0 m 45 ls [])) : ∀ (n : Nat) (x2 : Int64) (x4 : Int32) (x5 : Int32) (x6 : Int32) (x7 : Int64) (x9 : Int32) (x10 : Int32) (x11 : Int64) (X : XM) (H : Heap) (locs : List Loc) (ls : Array Slot), Oh D L ac X (fun q : Nat => s.heap.size ≤ q) s.heap H locs → lv_has ls 14 [(0, .ref b), (1, .ref (L 0)), (2, .long x2), (4, .int x4), (5, .int x5), (6, .int x6), (7, .long x7), (9, .int x9), (10, .int x10), (11, .long x11)] → fL_law_192 xs N k45 n x2 x4 x5 x6 x7 x9 x10 x11 X = some () → W p l e room_1 s m #[Value.ref b] below meth c H locs 103 47387 (lw_Z below #[Value.ref b] s) (F0 m 192 ls []) := by
  obtain ⟨C0, hN2, hA, hK, hN⟩ := id F
  obtain ⟨hx, hb, hr, hml, hown, hts0, hX, hbl, hlocks, hgv⟩ := id C0
  have hts : ∀ w ∈ wsL_law, w.before #[Value.ref b] s = true := fun w h => hts0 w (wsL_law_in w h)
  have hbA : ¬ (fun q : Nat => s.heap.size ≤ q) b := Nat.not_le.mpr hbl
  intro n
  induction n with
  | zero => intro x2 x4 x5 x6 x7 x9 x10 x11 X H locs ls hO hl hf; simp [fL_law_192] at hf
  | succ n ih =>
    intro x2 x4 x5 x6 x7 x9 x10 x11 X H locs ls hO hl hf
    rw [fL_law_192] at hf
    refine lv_iload hx hb dL_law_192 (lv_at hl 8 rfl) ?_
    refine lv_if_lt (tgt := 261) hx hb dL_law_194 (by decide) (fun c_16 => ?_) (fun c_16 => ?_)
    · rw [if_pos c_16] at hf
      exact wL_law_261 hL F _ hk45 fuel _ _ _ _ _ _ _ _ _  _ _ _ hO (lv_sub hl [0, 1, 2, 3, 4, 5, 6, 7, 8, 9] rfl) hf
    · rw [if_neg c_16] at hf
      refine lv_iload hx hb dL_law_197 (lv_at hl 4 rfl) ?_
      refine lv_bipush (v := 9) hx hb dL_law_199 (by decide) ?_
      refine lv_ishr hx hb dL_law_201 ?_
      refine lv_iconst (v := 1) hx hb dL_law_202 (by decide) ?_
      refine lv_iand hx hb dL_law_203 ?_
      refine lv_if_ne (tgt := 261) hx hb dL_law_204 (by decide) (fun c_17 => ?_) (fun c_17 => ?_)
      · rw [if_neg c_17] at hf
        exact wL_law_261 hL F _ hk45 fuel _ _ _ _ _ _ _ _ _  _ _ _ hO (lv_sub hl [0, 1, 2, 3, 4, 5, 6, 7, 8, 9] rfl) hf
      · rw [if_pos c_17] at hf
        refine lv_aload_n hx hb dL_law_207 rfl (lv_at hl 1 rfl) ?_
        refine lv_bipush (v := 10) hx hb dL_law_208 (by decide) ?_
        replace hf := zi_some hf
        obtain ⟨r_19, X_18, hc_18, hf⟩ := hf
        refine k_ai (va_runV (As := [.int 10]) (rest := []) ⟨hx, hb, hml, hown, hts⟩ (mX8_count l D L ac hL _ 10 _ _ hc_18) (cwV 1 hts gL_law_X8_count rfl rfl rfl (by decide +kernel) ⟨Nat.le_of_ble_eq_true rfl, Nat.le_of_ble_eq_true rfl⟩) (k_pv (j := 0) hK hN hO (by decide) rfl rfl _) rfl rfl hl.1 rfl (lv_room (Nat.le_of_ble_eq_true rfl)) dL_law_210 ⟨Nat.le_of_ble_eq_true rfl, Nat.le_of_ble_eq_true rfl⟩) hA hO (fun H_20 locs_20 hO_20 => ?_)
        clear hO
        refine lv_iconst (v := 1) hx hb dL_law_213 (by decide) ?_
        refine lv_isub hx hb dL_law_214 ?_
        replace hf := zl_some hf
        obtain ⟨v_21, hv_21, hf⟩ := hf
        refine lv_tope hv_21 ?_
        refine lv_istore (lv' := [(13, .int v_21), (0, .ref b), (1, .ref (L 0)), (2, .long x2), (4, .int x4), (5, .int x5), (6, .int x6), (7, .long x7), (9, .int x9), (10, .int x10), (11, .long x11)]) hx hb dL_law_215 hl (by decide) rfl (fun ls_22 hl_22 => ?_)
        clear hl
        refine lv_aload_n hx hb dL_law_217 rfl (lv_at hl_22 2 rfl) ?_
        replace hf := zi_some hf
        obtain ⟨r_24, X_23, hc_23, hf⟩ := hf
        refine k_ai (va_runV (As := []) (rest := []) ⟨hx, hb, hml, hown, hts⟩ (mX8_undo l D L ac hL _  _ _ hc_23) (cwV 0 hts gL_law_X8_undo rfl rfl rfl (by decide +kernel) ⟨Nat.le_of_ble_eq_true rfl, Nat.le_of_ble_eq_true rfl⟩) (k_pv (j := 0) hK hN hO_20 (by decide) rfl rfl _) rfl rfl hl_22.1 rfl (lv_room (Nat.le_of_ble_eq_true rfl)) dL_law_218 ⟨Nat.le_of_ble_eq_true rfl, Nat.le_of_ble_eq_true rfl⟩) hA hO_20 (fun H_25 locs_25 hO_25 => ?_)
        clear hO_20
        refine lv_iload hx hb dL_law_221 (lv_at hl_22 0 rfl) ?_
        refine lv_icmp_ne (tgt := 259) hx hb dL_law_223 (by decide) (fun c_26 => ?_) (fun c_26 => ?_)
        · rw [if_neg c_26] at hf
          refine lv_iconst (v := 0) hx hb dL_law_259 (by decide) ?_
          cases hf
        · rw [if_pos c_26] at hf
          refine lv_aload_n hx hb dL_law_226 rfl (lv_at hl_22 2 rfl) ?_
          replace hf := zi_some hf
          obtain ⟨r_28, X_27, hc_27, hf⟩ := hf
          refine k_al (va_runS (As := [.ref (L 0)]) (rest := []) ⟨hx, hb, hml, hown, hts⟩ (mL_told l D L ac hL _  _ _ hc_27) (va_cwS 1 hts gL_law_L_told rfl rfl rfl (by decide +kernel) ⟨Nat.le_of_ble_eq_true rfl, Nat.le_of_ble_eq_true rfl⟩) (k_ps hK hN hO_25 _) rfl rfl hl_22.1 rfl (lv_room (Nat.le_of_ble_eq_true rfl)) dL_law_227 ⟨Nat.le_of_ble_eq_true rfl, Nat.le_of_ble_eq_true rfl⟩) hA hO_25 (fun H_29 locs_29 hO_29 => ?_)
          clear hO_25
          refine lv_lload hx hb dL_law_230 (lv_at hl_22 7 rfl) ?_
          refine W.lcmp hx hb dL_law_232 ?_
          refine lv_if_ne (tgt := 259) hx hb dL_law_233 (by decide) (fun c_30 => ?_) (fun c_30 => ?_)
          · rw [if_neg c_30] at hf
            refine lv_iconst (v := 0) hx hb dL_law_259 (by decide) ?_
            cases hf
          · rw [if_pos c_30] at hf
            refine lv_aload_n hx hb dL_law_236 rfl (lv_at hl_22 2 rfl) ?_
            refine lv_iload hx hb dL_law_237 (lv_at hl_22 5 rfl) ?_
            refine lv_iload hx hb dL_law_239 (lv_at hl_22 6 rfl) ?_
            replace hf := zi_some hf
            obtain ⟨r_32, X_31, hc_31, hf⟩ := hf
            refine k_ai (va_runS (As := [.ref (L 0), .int x5, .int x6]) (rest := []) ⟨hx, hb, hml, hown, hts⟩ (mL_act l D L ac hL _ x5 x6 _ _ hc_31) (va_cwS 3 hts gL_law_L_act rfl rfl rfl (by decide +kernel) ⟨Nat.le_of_ble_eq_true rfl, Nat.le_of_ble_eq_true rfl⟩) (k_ps hK hN hO_29 _) rfl rfl hl_22.1 rfl (lv_room (Nat.le_of_ble_eq_true rfl)) dL_law_241 ⟨Nat.le_of_ble_eq_true rfl, Nat.le_of_ble_eq_true rfl⟩) hA hO_29 (fun H_33 locs_33 hO_33 => ?_)
            clear hO_29
            refine lv_iload hx hb dL_law_244 (lv_at hl_22 9 rfl) ?_
            refine lv_icmp_ne (tgt := 259) hx hb dL_law_246 (by decide) (fun c_34 => ?_) (fun c_34 => ?_)
            · rw [if_neg c_34] at hf
              refine lv_iconst (v := 0) hx hb dL_law_259 (by decide) ?_
              cases hf
            · rw [if_pos c_34] at hf
              refine lv_aload_n hx hb dL_law_249 rfl (lv_at hl_22 2 rfl) ?_
              replace hf := zi_some hf
              obtain ⟨r_36, X_35, hc_35, hf⟩ := hf
              refine k_al (va_runS (As := [.ref (L 0)]) (rest := []) ⟨hx, hb, hml, hown, hts⟩ (mL_told l D L ac hL _  _ _ hc_35) (va_cwS 1 hts gL_law_L_told rfl rfl rfl (by decide +kernel) ⟨Nat.le_of_ble_eq_true rfl, Nat.le_of_ble_eq_true rfl⟩) (k_ps hK hN hO_33 _) rfl rfl hl_22.1 rfl (lv_room (Nat.le_of_ble_eq_true rfl)) dL_law_250 ⟨Nat.le_of_ble_eq_true rfl, Nat.le_of_ble_eq_true rfl⟩) hA hO_33 (fun H_37 locs_37 hO_37 => ?_)
              clear hO_33
              refine lv_lload hx hb dL_law_253 (lv_at hl_22 10 rfl) ?_
              refine W.lcmp hx hb dL_law_255 ?_
              refine lv_if_eq (tgt := 261) hx hb dL_law_256 (by decide) (fun c_38 => ?_) (fun c_38 => ?_)
              · rw [if_pos c_38] at hf
                exact wL_law_261 hL F _ hk45 fuel _ _ _ _ _ _ _ _ _  _ _ _ hO_37 (lv_sub hl_22 [1, 2, 3, 4, 5, 6, 7, 8, 9, 10] rfl) hf
              · rw [if_neg c_38] at hf
                refine lv_iconst (v := 0) hx hb dL_law_259 (by decide) ?_
                cases hf
def fL_law_168 (xs : Nat → Int32) (N : Nat) (k45 : Int64 → Int32 → XM → Option Unit) : Nat → Int64 → Int32 → Int32 → Int32 → Int64 → Int32 → Int32 → Int64 → XM → Option Unit
  | 0, _, _, _, _, _, _, _, _, _ => none
  | n + 1, x2, x4, x5, x6, x7, x9, x10, x11, X => if x10 < 0 then fL_law_192 xs N k45 fuel x2 x4 x5 x6 x7 x9 x10 x11 X else if (x5 &&& 15) = 8 then if (lg_cmp x11 x2) = 0 then fL_law_192 xs N k45 fuel x2 x4 x5 x6 x7 x9 x10 x11 X else none else fL_law_192 xs N k45 fuel x2 x4 x5 x6 x7 x9 x10 x11 X
set_option maxHeartbeats 4000000 in
set_option maxRecDepth 100000 in
theorem wL_law_168 {p : Program} {l : Launch} {e : Env} {s : State} {m : MethodId} {below : List Frame} {meth : Method} {c : Code} {D : va_G} {L : Nat → Nat} {ac : Nat → ClassId} {b N : Nat} {xs : Nat → Int32} (hL : LL L) (F : lf_At p s m meth c b N xs D L ac) (k45 : Int64 → Int32 → XM → Option Unit) (hk45 : ∀ (x2 : Int64) (x4 : Int32) (X : XM) (H : Heap) (locs : List Loc) (ls : Array Slot), Oh D L ac X (fun q : Nat => s.heap.size ≤ q) s.heap H locs → lv_has ls 14 [(0, .ref b), (1, .ref (L 0)), (2, .long x2), (4, .int x4)] → k45 x2 x4 X = some () → W p l e room_1 s m #[Value.ref b] below meth c H locs 103 47387 (lw_Z below #[Value.ref b] s) (F0 m 45 ls [])) : ∀ (n : Nat) (x2 : Int64) (x4 : Int32) (x5 : Int32) (x6 : Int32) (x7 : Int64) (x9 : Int32) (x10 : Int32) (x11 : Int64) (X : XM) (H : Heap) (locs : List Loc) (ls : Array Slot), Oh D L ac X (fun q : Nat => s.heap.size ≤ q) s.heap H locs → lv_has ls 14 [(0, .ref b), (1, .ref (L 0)), (2, .long x2), (4, .int x4), (5, .int x5), (6, .int x6), (7, .long x7), (9, .int x9), (10, .int x10), (11, .long x11)] → fL_law_168 xs N k45 n x2 x4 x5 x6 x7 x9 x10 x11 X = some () → W p l e room_1 s m #[Value.ref b] below meth c H locs 103 47387 (lw_Z below #[Value.ref b] s) (F0 m 168 ls []) := by
  obtain ⟨C0, hN2, hA, hK, hN⟩ := id F
  obtain ⟨hx, hb, hr, hml, hown, hts0, hX, hbl, hlocks, hgv⟩ := id C0
  have hts : ∀ w ∈ wsL_law, w.before #[Value.ref b] s = true := fun w h => hts0 w (wsL_law_in w h)
  have hbA : ¬ (fun q : Nat => s.heap.size ≤ q) b := Nat.not_le.mpr hbl
  intro n
  induction n with
  | zero => intro x2 x4 x5 x6 x7 x9 x10 x11 X H locs ls hO hl hf; simp [fL_law_168] at hf
  | succ n ih =>
    intro x2 x4 x5 x6 x7 x9 x10 x11 X H locs ls hO hl hf
    rw [fL_law_168] at hf
    refine lv_iload hx hb dL_law_168 (lv_at hl 8 rfl) ?_
    refine lv_if_lt (tgt := 192) hx hb dL_law_170 (by decide) (fun c_39 => ?_) (fun c_39 => ?_)
    · rw [if_pos c_39] at hf
      exact wL_law_192 hL F _ hk45 fuel _ _ _ _ _ _ _ _ _  _ _ _ hO (lv_sub hl [0, 1, 2, 3, 4, 5, 6, 7, 8, 9] rfl) hf
    · rw [if_neg c_39] at hf
      refine lv_iload hx hb dL_law_173 (lv_at hl 4 rfl) ?_
      refine lv_bipush (v := 15) hx hb dL_law_175 (by decide) ?_
      refine lv_iand hx hb dL_law_177 ?_
      refine lv_bipush (v := 8) hx hb dL_law_178 (by decide) ?_
      refine lv_icmp_ne (tgt := 192) hx hb dL_law_180 (by decide) (fun c_40 => ?_) (fun c_40 => ?_)
      · rw [if_neg c_40] at hf
        exact wL_law_192 hL F _ hk45 fuel _ _ _ _ _ _ _ _ _  _ _ _ hO (lv_sub hl [0, 1, 2, 3, 4, 5, 6, 7, 8, 9] rfl) hf
      · rw [if_pos c_40] at hf
        refine lv_lload hx hb dL_law_183 (lv_at hl 9 rfl) ?_
        refine lv_lload_n hx hb dL_law_185 rfl (lv_at hl 2 rfl) ?_
        refine W.lcmp hx hb dL_law_186 ?_
        refine lv_if_eq (tgt := 192) hx hb dL_law_187 (by decide) (fun c_41 => ?_) (fun c_41 => ?_)
        · rw [if_pos c_41] at hf
          exact wL_law_192 hL F _ hk45 fuel _ _ _ _ _ _ _ _ _  _ _ _ hO (lv_sub hl [0, 1, 2, 3, 4, 5, 6, 7, 8, 9] rfl) hf
        · rw [if_neg c_41] at hf
          refine lv_iconst (v := 0) hx hb dL_law_190 (by decide) ?_
          cases hf
def fL_law_72 (xs : Nat → Int32) (N : Nat) (k45 : Int64 → Int32 → XM → Option Unit) : Nat → Int64 → Int32 → Int32 → XM → Option Unit
  | 0, _, _, _, _ => none
  | n + 1, x2, x4, x5, X => zn ((2 * x4) + 1) (zl (cellF xs N ((2 * x4) + 1)) (fun v_44 => zi (fL_told X) (fun r_47 X_46 => zi (fX8_count 10 X_46) (fun r_51 X_50 => zi (fL_act x5 v_44 X_50) (fun r_55 X_54 => zi (fL_told X_54) (fun r_59 X_58 => if 0 ≤ r_55 then zi (fX8_count 10 X_58) (fun r_64 X_63 => if 6 ≤ r_51 then if r_64 = 6 then fL_law_168 xs N k45 fuel x2 x4 x5 v_44 r_47 r_51 r_55 r_59 X_63 else none else if r_64 = (r_51 + 1) then fL_law_168 xs N k45 fuel x2 x4 x5 v_44 r_47 r_51 r_55 r_59 X_63 else none) else if (lg_cmp r_59 r_47) = 0 then zi (fX8_count 10 X_58) (fun r_71 X_70 => if r_71 = r_51 then fL_law_168 xs N k45 fuel x2 x4 x5 v_44 r_47 r_51 r_55 r_59 X_70 else none) else none))))))
set_option maxHeartbeats 4000000 in
set_option maxRecDepth 100000 in
theorem wL_law_72 {p : Program} {l : Launch} {e : Env} {s : State} {m : MethodId} {below : List Frame} {meth : Method} {c : Code} {D : va_G} {L : Nat → Nat} {ac : Nat → ClassId} {b N : Nat} {xs : Nat → Int32} (hL : LL L) (F : lf_At p s m meth c b N xs D L ac) (k45 : Int64 → Int32 → XM → Option Unit) (hk45 : ∀ (x2 : Int64) (x4 : Int32) (X : XM) (H : Heap) (locs : List Loc) (ls : Array Slot), Oh D L ac X (fun q : Nat => s.heap.size ≤ q) s.heap H locs → lv_has ls 14 [(0, .ref b), (1, .ref (L 0)), (2, .long x2), (4, .int x4)] → k45 x2 x4 X = some () → W p l e room_1 s m #[Value.ref b] below meth c H locs 103 47387 (lw_Z below #[Value.ref b] s) (F0 m 45 ls [])) : ∀ (n : Nat) (x2 : Int64) (x4 : Int32) (x5 : Int32) (X : XM) (H : Heap) (locs : List Loc) (ls : Array Slot), Oh D L ac X (fun q : Nat => s.heap.size ≤ q) s.heap H locs → lv_has ls 14 [(0, .ref b), (1, .ref (L 0)), (2, .long x2), (4, .int x4), (5, .int x5)] → fL_law_72 xs N k45 n x2 x4 x5 X = some () → W p l e room_1 s m #[Value.ref b] below meth c H locs 103 47387 (lw_Z below #[Value.ref b] s) (F0 m 72 ls []) := by
  obtain ⟨C0, hN2, hA, hK, hN⟩ := id F
  obtain ⟨hx, hb, hr, hml, hown, hts0, hX, hbl, hlocks, hgv⟩ := id C0
  have hts : ∀ w ∈ wsL_law, w.before #[Value.ref b] s = true := fun w h => hts0 w (wsL_law_in w h)
  have hbA : ¬ (fun q : Nat => s.heap.size ≤ q) b := Nat.not_le.mpr hbl
  intro n
  induction n with
  | zero => intro x2 x4 x5 X H locs ls hO hl hf; simp [fL_law_72] at hf
  | succ n ih =>
    intro x2 x4 x5 X H locs ls hO hl hf
    rw [fL_law_72] at hf
    refine lv_aload_n hx hb dL_law_72 rfl (lv_at hl 0 rfl) ?_
    refine lv_iconst (v := 2) hx hb dL_law_73 (by decide) ?_
    refine lv_iload hx hb dL_law_74 (lv_at hl 3 rfl) ?_
    refine lv_imul hx hb dL_law_76 ?_
    refine lv_iconst (v := 1) hx hb dL_law_77 (by decide) ?_
    refine lv_iadd hx hb dL_law_78 ?_
    replace hf := zn_some hf
    obtain ⟨hz_42, hf⟩ := hf
    refine k_ai (va_runS (As := [.ref b, .int ((2 * x4) + 1)]) (rest := []) ⟨hx, hb, hml, hown, hts⟩ (mL_cell l D L ac hL X b N xs hN2 ((2 * x4) + 1) hz_42) (va_cwS 2 hts gL_law_L_cell rfl rfl rfl (by decide +kernel) ⟨Nat.le_of_ble_eq_true rfl, Nat.le_of_ble_eq_true rfl⟩) (k_pcell (N := N) (xs := xs) hK hN hO hX hbl hbA hA _) rfl rfl hl.1 rfl (lv_room (Nat.le_of_ble_eq_true rfl)) dL_law_79 ⟨Nat.le_of_ble_eq_true rfl, Nat.le_of_ble_eq_true rfl⟩) hA hO (fun H_43 locs_43 hO_43 => ?_)
    clear hO
    replace hf := zl_some hf
    obtain ⟨v_44, hv_44, hf⟩ := hf
    refine lv_tope hv_44 ?_
    refine lv_istore (lv' := [(6, .int v_44), (0, .ref b), (1, .ref (L 0)), (2, .long x2), (4, .int x4), (5, .int x5)]) hx hb dL_law_82 hl (by decide) rfl (fun ls_45 hl_45 => ?_)
    clear hl
    refine lv_aload_n hx hb dL_law_84 rfl (lv_at hl_45 2 rfl) ?_
    replace hf := zi_some hf
    obtain ⟨r_47, X_46, hc_46, hf⟩ := hf
    refine k_al (va_runS (As := [.ref (L 0)]) (rest := []) ⟨hx, hb, hml, hown, hts⟩ (mL_told l D L ac hL _  _ _ hc_46) (va_cwS 1 hts gL_law_L_told rfl rfl rfl (by decide +kernel) ⟨Nat.le_of_ble_eq_true rfl, Nat.le_of_ble_eq_true rfl⟩) (k_ps hK hN hO_43 _) rfl rfl hl_45.1 rfl (lv_room (Nat.le_of_ble_eq_true rfl)) dL_law_85 ⟨Nat.le_of_ble_eq_true rfl, Nat.le_of_ble_eq_true rfl⟩) hA hO_43 (fun H_48 locs_48 hO_48 => ?_)
    clear hO_43
    refine lv_lstore (lv' := [(7, .long r_47), (6, .int v_44), (0, .ref b), (1, .ref (L 0)), (2, .long x2), (4, .int x4), (5, .int x5)]) hx hb dL_law_88 hl_45 (by decide) rfl (fun ls_49 hl_49 => ?_)
    clear hl_45
    refine lv_aload_n hx hb dL_law_90 rfl (lv_at hl_49 3 rfl) ?_
    refine lv_bipush (v := 10) hx hb dL_law_91 (by decide) ?_
    replace hf := zi_some hf
    obtain ⟨r_51, X_50, hc_50, hf⟩ := hf
    refine k_ai (va_runV (As := [.int 10]) (rest := []) ⟨hx, hb, hml, hown, hts⟩ (mX8_count l D L ac hL _ 10 _ _ hc_50) (cwV 1 hts gL_law_X8_count rfl rfl rfl (by decide +kernel) ⟨Nat.le_of_ble_eq_true rfl, Nat.le_of_ble_eq_true rfl⟩) (k_pv (j := 0) hK hN hO_48 (by decide) rfl rfl _) rfl rfl hl_49.1 rfl (lv_room (Nat.le_of_ble_eq_true rfl)) dL_law_93 ⟨Nat.le_of_ble_eq_true rfl, Nat.le_of_ble_eq_true rfl⟩) hA hO_48 (fun H_52 locs_52 hO_52 => ?_)
    clear hO_48
    refine lv_istore (lv' := [(9, .int r_51), (7, .long r_47), (6, .int v_44), (0, .ref b), (1, .ref (L 0)), (2, .long x2), (4, .int x4), (5, .int x5)]) hx hb dL_law_96 hl_49 (by decide) rfl (fun ls_53 hl_53 => ?_)
    clear hl_49
    refine lv_aload_n hx hb dL_law_98 rfl (lv_at hl_53 4 rfl) ?_
    refine lv_iload hx hb dL_law_99 (lv_at hl_53 7 rfl) ?_
    refine lv_iload hx hb dL_law_101 (lv_at hl_53 2 rfl) ?_
    replace hf := zi_some hf
    obtain ⟨r_55, X_54, hc_54, hf⟩ := hf
    refine k_ai (va_runS (As := [.ref (L 0), .int x5, .int v_44]) (rest := []) ⟨hx, hb, hml, hown, hts⟩ (mL_act l D L ac hL _ x5 v_44 _ _ hc_54) (va_cwS 3 hts gL_law_L_act rfl rfl rfl (by decide +kernel) ⟨Nat.le_of_ble_eq_true rfl, Nat.le_of_ble_eq_true rfl⟩) (k_ps hK hN hO_52 _) rfl rfl hl_53.1 rfl (lv_room (Nat.le_of_ble_eq_true rfl)) dL_law_103 ⟨Nat.le_of_ble_eq_true rfl, Nat.le_of_ble_eq_true rfl⟩) hA hO_52 (fun H_56 locs_56 hO_56 => ?_)
    clear hO_52
    refine lv_istore (lv' := [(10, .int r_55), (9, .int r_51), (7, .long r_47), (6, .int v_44), (0, .ref b), (1, .ref (L 0)), (2, .long x2), (4, .int x4), (5, .int x5)]) hx hb dL_law_106 hl_53 (by decide) rfl (fun ls_57 hl_57 => ?_)
    clear hl_53
    refine lv_aload_n hx hb dL_law_108 rfl (lv_at hl_57 5 rfl) ?_
    replace hf := zi_some hf
    obtain ⟨r_59, X_58, hc_58, hf⟩ := hf
    refine k_al (va_runS (As := [.ref (L 0)]) (rest := []) ⟨hx, hb, hml, hown, hts⟩ (mL_told l D L ac hL _  _ _ hc_58) (va_cwS 1 hts gL_law_L_told rfl rfl rfl (by decide +kernel) ⟨Nat.le_of_ble_eq_true rfl, Nat.le_of_ble_eq_true rfl⟩) (k_ps hK hN hO_56 _) rfl rfl hl_57.1 rfl (lv_room (Nat.le_of_ble_eq_true rfl)) dL_law_109 ⟨Nat.le_of_ble_eq_true rfl, Nat.le_of_ble_eq_true rfl⟩) hA hO_56 (fun H_60 locs_60 hO_60 => ?_)
    clear hO_56
    refine lv_lstore (lv' := [(11, .long r_59), (10, .int r_55), (9, .int r_51), (7, .long r_47), (6, .int v_44), (0, .ref b), (1, .ref (L 0)), (2, .long x2), (4, .int x4), (5, .int x5)]) hx hb dL_law_112 hl_57 (by decide) rfl (fun ls_61 hl_61 => ?_)
    clear hl_57
    refine lv_iload hx hb dL_law_114 (lv_at hl_61 1 rfl) ?_
    refine lv_if_ge (tgt := 141) hx hb dL_law_116 (by decide) (fun c_62 => ?_) (fun c_62 => ?_)
    · rw [if_pos c_62] at hf
      refine lv_aload_n hx hb dL_law_141 rfl (lv_at hl_61 6 rfl) ?_
      refine lv_bipush (v := 10) hx hb dL_law_142 (by decide) ?_
      replace hf := zi_some hf
      obtain ⟨r_64, X_63, hc_63, hf⟩ := hf
      refine k_ai (va_runV (As := [.int 10]) (rest := []) ⟨hx, hb, hml, hown, hts⟩ (mX8_count l D L ac hL _ 10 _ _ hc_63) (cwV 1 hts gL_law_X8_count rfl rfl rfl (by decide +kernel) ⟨Nat.le_of_ble_eq_true rfl, Nat.le_of_ble_eq_true rfl⟩) (k_pv (j := 0) hK hN hO_60 (by decide) rfl rfl _) rfl rfl hl_61.1 rfl (lv_room (Nat.le_of_ble_eq_true rfl)) dL_law_144 ⟨Nat.le_of_ble_eq_true rfl, Nat.le_of_ble_eq_true rfl⟩) hA hO_60 (fun H_65 locs_65 hO_65 => ?_)
      clear hO_60
      refine lv_iload hx hb dL_law_147 (lv_at hl_61 2 rfl) ?_
      refine lv_bipush (v := 6) hx hb dL_law_149 (by decide) ?_
      refine lv_icmp_ge (tgt := 161) hx hb dL_law_151 (by decide) (fun c_66 => ?_) (fun c_66 => ?_)
      · rw [if_pos c_66] at hf
        refine lv_bipush (v := 6) hx hb dL_law_161 (by decide) ?_
        refine lv_icmp_eq (tgt := 168) hx hb dL_law_163 (by decide) (fun c_67 => ?_) (fun c_67 => ?_)
        · rw [if_pos c_67] at hf
          subst c_67
          exact wL_law_168 hL F _ hk45 fuel _ _ _ _ _ _ _ _ _  _ _ _ hO_65 (lv_sub hl_61 [5, 6, 7, 8, 9, 4, 3, 2, 1, 0] rfl) hf
        · rw [if_neg c_67] at hf
          refine lv_iconst (v := 0) hx hb dL_law_166 (by decide) ?_
          cases hf
      · rw [if_neg c_66] at hf
        refine lv_iload hx hb dL_law_154 (lv_at hl_61 2 rfl) ?_
        refine lv_iconst (v := 1) hx hb dL_law_156 (by decide) ?_
        refine lv_iadd hx hb dL_law_157 ?_
        refine lv_goto (tgt := 163) hx hb dL_law_158 (by decide) ?_
        refine lv_icmp_eq (tgt := 168) hx hb dL_law_163 (by decide) (fun c_68 => ?_) (fun c_68 => ?_)
        · rw [if_pos c_68] at hf
          exact wL_law_168 hL F _ hk45 fuel _ _ _ _ _ _ _ _ _  _ _ _ hO_65 (lv_sub hl_61 [5, 6, 7, 8, 9, 4, 3, 2, 1, 0] rfl) hf
        · rw [if_neg c_68] at hf
          refine lv_iconst (v := 0) hx hb dL_law_166 (by decide) ?_
          cases hf
    · rw [if_neg c_62] at hf
      refine lv_lload hx hb dL_law_119 (lv_at hl_61 0 rfl) ?_
      refine lv_lload hx hb dL_law_121 (lv_at hl_61 3 rfl) ?_
      refine W.lcmp hx hb dL_law_123 ?_
      refine lv_if_ne (tgt := 166) hx hb dL_law_124 (by decide) (fun c_69 => ?_) (fun c_69 => ?_)
      · rw [if_neg c_69] at hf
        refine lv_iconst (v := 0) hx hb dL_law_166 (by decide) ?_
        cases hf
      · rw [if_pos c_69] at hf
        refine lv_aload_n hx hb dL_law_127 rfl (lv_at hl_61 6 rfl) ?_
        refine lv_bipush (v := 10) hx hb dL_law_128 (by decide) ?_
        replace hf := zi_some hf
        obtain ⟨r_71, X_70, hc_70, hf⟩ := hf
        refine k_ai (va_runV (As := [.int 10]) (rest := []) ⟨hx, hb, hml, hown, hts⟩ (mX8_count l D L ac hL _ 10 _ _ hc_70) (cwV 1 hts gL_law_X8_count rfl rfl rfl (by decide +kernel) ⟨Nat.le_of_ble_eq_true rfl, Nat.le_of_ble_eq_true rfl⟩) (k_pv (j := 0) hK hN hO_60 (by decide) rfl rfl _) rfl rfl hl_61.1 rfl (lv_room (Nat.le_of_ble_eq_true rfl)) dL_law_130 ⟨Nat.le_of_ble_eq_true rfl, Nat.le_of_ble_eq_true rfl⟩) hA hO_60 (fun H_72 locs_72 hO_72 => ?_)
        clear hO_60
        refine lv_iload hx hb dL_law_133 (lv_at hl_61 2 rfl) ?_
        refine lv_icmp_eq (tgt := 168) hx hb dL_law_135 (by decide) (fun c_73 => ?_) (fun c_73 => ?_)
        · rw [if_pos c_73] at hf
          exact wL_law_168 hL F _ hk45 fuel _ _ _ _ _ _ _ _ _  _ _ _ hO_72 (lv_sub hl_61 [5, 6, 7, 8, 9, 4, 3, 2, 1, 0] rfl) hf
        · rw [if_neg c_73] at hf
          refine lv_goto (tgt := 166) hx hb dL_law_138 (by decide) ?_
          refine lv_iconst (v := 0) hx hb dL_law_166 (by decide) ?_
          cases hf
def fL_law_315 (xs : Nat → Int32) (N : Nat)  : Nat → Int64 → Int32 → XM → Option Unit
  | 0, _, _, _ => none
  | n + 1, x2, x4, X => zi (fX8_restore 0 X) (fun r_75 X_74 => zi (fX8_count 1 X_74) (fun r_78 X_77 => if r_75 = r_78 then zi (fL_told X_77) (fun r_82 X_81 => if (lg_cmp r_82 x2) = 0 then some () else none) else none))
set_option maxHeartbeats 4000000 in
set_option maxRecDepth 100000 in
theorem wL_law_315 {p : Program} {l : Launch} {e : Env} {s : State} {m : MethodId} {below : List Frame} {meth : Method} {c : Code} {D : va_G} {L : Nat → Nat} {ac : Nat → ClassId} {b N : Nat} {xs : Nat → Int32} (hL : LL L) (F : lf_At p s m meth c b N xs D L ac) : ∀ (n : Nat) (x2 : Int64) (x4 : Int32) (X : XM) (H : Heap) (locs : List Loc) (ls : Array Slot), Oh D L ac X (fun q : Nat => s.heap.size ≤ q) s.heap H locs → lv_has ls 14 [(0, .ref b), (1, .ref (L 0)), (2, .long x2), (4, .int x4)] → fL_law_315 xs N n x2 x4 X = some () → W p l e room_1 s m #[Value.ref b] below meth c H locs 103 47387 (lw_Z below #[Value.ref b] s) (F0 m 315 ls []) := by
  obtain ⟨C0, hN2, hA, hK, hN⟩ := id F
  obtain ⟨hx, hb, hr, hml, hown, hts0, hX, hbl, hlocks, hgv⟩ := id C0
  have hts : ∀ w ∈ wsL_law, w.before #[Value.ref b] s = true := fun w h => hts0 w (wsL_law_in w h)
  have hbA : ¬ (fun q : Nat => s.heap.size ≤ q) b := Nat.not_le.mpr hbl
  intro n
  induction n with
  | zero => intro x2 x4 X H locs ls hO hl hf; simp [fL_law_315] at hf
  | succ n ih =>
    intro x2 x4 X H locs ls hO hl hf
    rw [fL_law_315] at hf
    refine lv_aload_n hx hb dL_law_315 rfl (lv_at hl 1 rfl) ?_
    refine lv_iconst (v := 0) hx hb dL_law_316 (by decide) ?_
    replace hf := zi_some hf
    obtain ⟨r_75, X_74, hc_74, hf⟩ := hf
    refine k_ai (va_runV (As := [.int 0]) (rest := []) ⟨hx, hb, hml, hown, hts⟩ (mX8_restore l D L ac hL _ 0 _ _ hc_74) (cwV 1 hts gL_law_X8_restore rfl rfl rfl (by decide +kernel) ⟨Nat.le_of_ble_eq_true rfl, Nat.le_of_ble_eq_true rfl⟩) (k_pv (j := 0) hK hN hO (by decide) rfl rfl _) rfl rfl hl.1 rfl (lv_room (Nat.le_of_ble_eq_true rfl)) dL_law_317 ⟨Nat.le_of_ble_eq_true rfl, Nat.le_of_ble_eq_true rfl⟩) hA hO (fun H_76 locs_76 hO_76 => ?_)
    clear hO
    refine lv_aload_n hx hb dL_law_320 rfl (lv_at hl 1 rfl) ?_
    refine lv_iconst (v := 1) hx hb dL_law_321 (by decide) ?_
    replace hf := zi_some hf
    obtain ⟨r_78, X_77, hc_77, hf⟩ := hf
    refine k_ai (va_runV (As := [.int 1]) (rest := [.int r_75]) ⟨hx, hb, hml, hown, hts⟩ (mX8_count l D L ac hL _ 1 _ _ hc_77) (cwV 1 hts gL_law_X8_count rfl rfl rfl (by decide +kernel) ⟨Nat.le_of_ble_eq_true rfl, Nat.le_of_ble_eq_true rfl⟩) (k_pv (j := 0) hK hN hO_76 (by decide) rfl rfl _) rfl rfl hl.1 rfl (lv_room (Nat.le_of_ble_eq_true rfl)) dL_law_322 ⟨Nat.le_of_ble_eq_true rfl, Nat.le_of_ble_eq_true rfl⟩) hA hO_76 (fun H_79 locs_79 hO_79 => ?_)
    clear hO_76
    refine lv_icmp_ne (tgt := 341) hx hb dL_law_325 (by decide) (fun c_80 => ?_) (fun c_80 => ?_)
    · rw [if_neg c_80] at hf
      refine lv_iconst (v := 0) hx hb dL_law_341 (by decide) ?_
      cases hf
    · rw [if_pos c_80] at hf
      refine lv_aload_n hx hb dL_law_328 rfl (lv_at hl 1 rfl) ?_
      replace hf := zi_some hf
      obtain ⟨r_82, X_81, hc_81, hf⟩ := hf
      refine k_al (va_runS (As := [.ref (L 0)]) (rest := []) ⟨hx, hb, hml, hown, hts⟩ (mL_told l D L ac hL _  _ _ hc_81) (va_cwS 1 hts gL_law_L_told rfl rfl rfl (by decide +kernel) ⟨Nat.le_of_ble_eq_true rfl, Nat.le_of_ble_eq_true rfl⟩) (k_ps hK hN hO_79 _) rfl rfl hl.1 rfl (lv_room (Nat.le_of_ble_eq_true rfl)) dL_law_329 ⟨Nat.le_of_ble_eq_true rfl, Nat.le_of_ble_eq_true rfl⟩) hA hO_79 (fun H_83 locs_83 hO_83 => ?_)
      clear hO_79
      refine lv_lload_n hx hb dL_law_332 rfl (lv_at hl 2 rfl) ?_
      refine W.lcmp hx hb dL_law_333 ?_
      refine lv_if_ne (tgt := 341) hx hb dL_law_334 (by decide) (fun c_84 => ?_) (fun c_84 => ?_)
      · rw [if_neg c_84] at hf
        refine lv_iconst (v := 0) hx hb dL_law_341 (by decide) ?_
        cases hf
      · rw [if_pos c_84] at hf
        refine lv_iconst (v := 1) hx hb dL_law_337 (by decide) ?_
        refine lv_goto (tgt := 342) hx hb dL_law_338 (by decide) ?_
        exact law_end C0 hO_83 dL_law_342
def fL_law_45 (xs : Nat → Int32) (N : Nat)  : Nat → Int64 → Int32 → XM → Option Unit
  | 0, _, _, _ => none
  | n + 1, x2, x4, X => if 36 ≤ x4 then fL_law_315 xs N fuel x2 x4 X else if 3 ≤ x4 then zn (2 * x4) (zl (cellF xs N (2 * x4)) (fun v_89 => fL_law_72 xs N (fL_law_45 xs N n) fuel x2 x4 v_89 X)) else fL_law_72 xs N (fL_law_45 xs N n) fuel x2 x4 0 X
set_option maxHeartbeats 4000000 in
set_option maxRecDepth 100000 in
theorem wL_law_45 {p : Program} {l : Launch} {e : Env} {s : State} {m : MethodId} {below : List Frame} {meth : Method} {c : Code} {D : va_G} {L : Nat → Nat} {ac : Nat → ClassId} {b N : Nat} {xs : Nat → Int32} (hL : LL L) (F : lf_At p s m meth c b N xs D L ac) : ∀ (n : Nat) (x2 : Int64) (x4 : Int32) (X : XM) (H : Heap) (locs : List Loc) (ls : Array Slot), Oh D L ac X (fun q : Nat => s.heap.size ≤ q) s.heap H locs → lv_has ls 14 [(0, .ref b), (1, .ref (L 0)), (2, .long x2), (4, .int x4)] → fL_law_45 xs N n x2 x4 X = some () → W p l e room_1 s m #[Value.ref b] below meth c H locs 103 47387 (lw_Z below #[Value.ref b] s) (F0 m 45 ls []) := by
  obtain ⟨C0, hN2, hA, hK, hN⟩ := id F
  obtain ⟨hx, hb, hr, hml, hown, hts0, hX, hbl, hlocks, hgv⟩ := id C0
  have hts : ∀ w ∈ wsL_law, w.before #[Value.ref b] s = true := fun w h => hts0 w (wsL_law_in w h)
  have hbA : ¬ (fun q : Nat => s.heap.size ≤ q) b := Nat.not_le.mpr hbl
  intro n
  induction n with
  | zero => intro x2 x4 X H locs ls hO hl hf; simp [fL_law_45] at hf
  | succ n ih =>
    intro x2 x4 X H locs ls hO hl hf
    rw [fL_law_45] at hf
    refine lv_iload hx hb dL_law_45 (lv_at hl 3 rfl) ?_
    refine lv_bipush (v := 36) hx hb dL_law_47 (by decide) ?_
    refine lv_icmp_ge (tgt := 315) hx hb dL_law_49 (by decide) (fun c_85 => ?_) (fun c_85 => ?_)
    · rw [if_pos c_85] at hf
      exact wL_law_315 hL F  fuel _ _ _  _ _ _ hO (lv_sub hl [0, 1, 2, 3] rfl) hf
    · rw [if_neg c_85] at hf
      refine lv_iload hx hb dL_law_52 (lv_at hl 3 rfl) ?_
      refine lv_iconst (v := 3) hx hb dL_law_54 (by decide) ?_
      refine lv_icmp_ge (tgt := 62) hx hb dL_law_55 (by decide) (fun c_86 => ?_) (fun c_86 => ?_)
      · rw [if_pos c_86] at hf
        refine lv_aload_n hx hb dL_law_62 rfl (lv_at hl 0 rfl) ?_
        refine lv_iconst (v := 2) hx hb dL_law_63 (by decide) ?_
        refine lv_iload hx hb dL_law_64 (lv_at hl 3 rfl) ?_
        refine lv_imul hx hb dL_law_66 ?_
        replace hf := zn_some hf
        obtain ⟨hz_87, hf⟩ := hf
        refine k_ai (va_runS (As := [.ref b, .int (2 * x4)]) (rest := []) ⟨hx, hb, hml, hown, hts⟩ (mL_cell l D L ac hL X b N xs hN2 (2 * x4) hz_87) (va_cwS 2 hts gL_law_L_cell rfl rfl rfl (by decide +kernel) ⟨Nat.le_of_ble_eq_true rfl, Nat.le_of_ble_eq_true rfl⟩) (k_pcell (N := N) (xs := xs) hK hN hO hX hbl hbA hA _) rfl rfl hl.1 rfl (lv_room (Nat.le_of_ble_eq_true rfl)) dL_law_67 ⟨Nat.le_of_ble_eq_true rfl, Nat.le_of_ble_eq_true rfl⟩) hA hO (fun H_88 locs_88 hO_88 => ?_)
        clear hO
        replace hf := zl_some hf
        obtain ⟨v_89, hv_89, hf⟩ := hf
        refine lv_tope hv_89 ?_
        refine lv_istore (lv' := [(5, .int v_89), (0, .ref b), (1, .ref (L 0)), (2, .long x2), (4, .int x4)]) hx hb dL_law_70 hl (by decide) rfl (fun ls_90 hl_90 => ?_)
        clear hl
        exact wL_law_72 hL F _ ih fuel _ _ _ _  _ _ _ hO_88 (lv_sub hl_90 [1, 2, 3, 4, 0] rfl) hf
      · rw [if_neg c_86] at hf
        refine lv_iconst (v := 0) hx hb dL_law_58 (by decide) ?_
        refine lv_goto (tgt := 70) hx hb dL_law_59 (by decide) ?_
        refine lv_istore (lv' := [(5, .int 0), (0, .ref b), (1, .ref (L 0)), (2, .long x2), (4, .int x4)]) hx hb dL_law_70 hl (by decide) rfl (fun ls_91 hl_91 => ?_)
        clear hl
        exact wL_law_72 hL F _ ih fuel _ _ _ _  _ _ _ hO (lv_sub hl_91 [1, 2, 3, 4, 0] rfl) hf
def fL_law (xs : Nat → Int32) (N : Nat) (X : XM) : Option Unit := zi (fX8_undo X) (fun r_93 X_92 => if r_93 = (-5) then zi (fX8_restore 1 X_92) (fun r_97 X_96 => if r_97 = (-5) then zi (fX8_save 0 X_96) (fun r_101 X_100 => if r_101 = 0 then zi (fL_told X_100) (fun r_105 X_104 => fL_law_45 xs N fuel r_105 0 X_104) else none) else none) else none)
set_option maxHeartbeats 4000000 in
set_option maxRecDepth 100000 in
theorem wL_law {p : Program} {l : Launch} {e : Env} {s : State} {m : MethodId} {below : List Frame} {meth : Method} {c : Code} {D : va_G} {L : Nat → Nat} {ac : Nat → ClassId} {b N : Nat} {xs : Nat → Int32} (hL : LL L) (F : lf_At p s m meth c b N xs D L ac) (X : XM) (H : Heap) (locs : List Loc) (ls : Array Slot) (hO : Oh D L ac X (fun q : Nat => s.heap.size ≤ q) s.heap H locs) (hl : lv_has ls 14 [(1, .ref (L 0)), (0, .ref b)]) (hf : fL_law xs N X = some ()) : W p l e room_1 s m #[Value.ref b] below meth c H locs 103 47387 (lw_Z below #[Value.ref b] s) (F0 m 8 ls []) := by
  obtain ⟨C0, hN2, hA, hK, hN⟩ := id F
  obtain ⟨hx, hb, hr, hml, hown, hts0, hX, hbl, hlocks, hgv⟩ := id C0
  have hts : ∀ w ∈ wsL_law, w.before #[Value.ref b] s = true := fun w h => hts0 w (wsL_law_in w h)
  have hbA : ¬ (fun q : Nat => s.heap.size ≤ q) b := Nat.not_le.mpr hbl
  unfold fL_law at hf
  refine lv_aload_n hx hb dL_law_8 rfl (lv_at hl 0 rfl) ?_
  replace hf := zi_some hf
  obtain ⟨r_93, X_92, hc_92, hf⟩ := hf
  refine k_ai (va_runV (As := []) (rest := []) ⟨hx, hb, hml, hown, hts⟩ (mX8_undo l D L ac hL _  _ _ hc_92) (cwV 0 hts gL_law_X8_undo rfl rfl rfl (by decide +kernel) ⟨Nat.le_of_ble_eq_true rfl, Nat.le_of_ble_eq_true rfl⟩) (k_pv (j := 0) hK hN hO (by decide) rfl rfl _) rfl rfl hl.1 rfl (lv_room (Nat.le_of_ble_eq_true rfl)) dL_law_9 ⟨Nat.le_of_ble_eq_true rfl, Nat.le_of_ble_eq_true rfl⟩) hA hO (fun H_94 locs_94 hO_94 => ?_)
  clear hO
  refine lv_bipush (v := (-5)) hx hb dL_law_12 (by decide) ?_
  refine lv_icmp_ne (tgt := 35) hx hb dL_law_14 (by decide) (fun c_95 => ?_) (fun c_95 => ?_)
  · rw [if_neg c_95] at hf
    refine lv_iconst (v := 0) hx hb dL_law_35 (by decide) ?_
    cases hf
  · rw [if_pos c_95] at hf
    subst c_95
    refine lv_aload_n hx hb dL_law_17 rfl (lv_at hl 0 rfl) ?_
    refine lv_iconst (v := 1) hx hb dL_law_18 (by decide) ?_
    replace hf := zi_some hf
    obtain ⟨r_97, X_96, hc_96, hf⟩ := hf
    refine k_ai (va_runV (As := [.int 1]) (rest := []) ⟨hx, hb, hml, hown, hts⟩ (mX8_restore l D L ac hL _ 1 _ _ hc_96) (cwV 1 hts gL_law_X8_restore rfl rfl rfl (by decide +kernel) ⟨Nat.le_of_ble_eq_true rfl, Nat.le_of_ble_eq_true rfl⟩) (k_pv (j := 0) hK hN hO_94 (by decide) rfl rfl _) rfl rfl hl.1 rfl (lv_room (Nat.le_of_ble_eq_true rfl)) dL_law_19 ⟨Nat.le_of_ble_eq_true rfl, Nat.le_of_ble_eq_true rfl⟩) hA hO_94 (fun H_98 locs_98 hO_98 => ?_)
    clear hO_94
    refine lv_bipush (v := (-5)) hx hb dL_law_22 (by decide) ?_
    refine lv_icmp_ne (tgt := 35) hx hb dL_law_24 (by decide) (fun c_99 => ?_) (fun c_99 => ?_)
    · rw [if_neg c_99] at hf
      refine lv_iconst (v := 0) hx hb dL_law_35 (by decide) ?_
      cases hf
    · rw [if_pos c_99] at hf
      subst c_99
      refine lv_aload_n hx hb dL_law_27 rfl (lv_at hl 0 rfl) ?_
      refine lv_iconst (v := 0) hx hb dL_law_28 (by decide) ?_
      replace hf := zi_some hf
      obtain ⟨r_101, X_100, hc_100, hf⟩ := hf
      refine k_ai (va_runV (As := [.int 0]) (rest := []) ⟨hx, hb, hml, hown, hts⟩ (mX8_save l D L ac hL _ 0 _ _ hc_100) (cwV 1 hts gL_law_X8_save rfl rfl rfl (by decide +kernel) ⟨Nat.le_of_ble_eq_true rfl, Nat.le_of_ble_eq_true rfl⟩) (k_pv (j := 0) hK hN hO_98 (by decide) rfl rfl _) rfl rfl hl.1 rfl (lv_room (Nat.le_of_ble_eq_true rfl)) dL_law_29 ⟨Nat.le_of_ble_eq_true rfl, Nat.le_of_ble_eq_true rfl⟩) hA hO_98 (fun H_102 locs_102 hO_102 => ?_)
      clear hO_98
      refine lv_if_eq (tgt := 37) hx hb dL_law_32 (by decide) (fun c_103 => ?_) (fun c_103 => ?_)
      · rw [if_pos c_103] at hf
        subst c_103
        refine lv_aload_n hx hb dL_law_37 rfl (lv_at hl 0 rfl) ?_
        replace hf := zi_some hf
        obtain ⟨r_105, X_104, hc_104, hf⟩ := hf
        refine k_al (va_runS (As := [.ref (L 0)]) (rest := []) ⟨hx, hb, hml, hown, hts⟩ (mL_told l D L ac hL _  _ _ hc_104) (va_cwS 1 hts gL_law_L_told rfl rfl rfl (by decide +kernel) ⟨Nat.le_of_ble_eq_true rfl, Nat.le_of_ble_eq_true rfl⟩) (k_ps hK hN hO_102 _) rfl rfl hl.1 rfl (lv_room (Nat.le_of_ble_eq_true rfl)) dL_law_38 ⟨Nat.le_of_ble_eq_true rfl, Nat.le_of_ble_eq_true rfl⟩) hA hO_102 (fun H_106 locs_106 hO_106 => ?_)
        clear hO_102
        refine lv_lstore_n (lv' := [(2, .long r_105), (1, .ref (L 0)), (0, .ref b)]) hx hb dL_law_41 rfl hl (by decide) rfl (fun ls_107 hl_107 => ?_)
        clear hl
        refine lv_iconst (v := 0) hx hb dL_law_42 (by decide) ?_
        refine lv_istore (lv' := [(4, .int 0), (2, .long r_105), (1, .ref (L 0)), (0, .ref b)]) hx hb dL_law_43 hl_107 (by decide) rfl (fun ls_108 hl_108 => ?_)
        clear hl_107
        exact wL_law_45 hL F  fuel _ _ _  _ _ _ hO_106 (lv_sub hl_108 [3, 2, 1, 0] rfl) hf
      · rw [if_neg c_103] at hf
        refine lv_iconst (v := 0) hx hb dL_law_35 (by decide) ?_
        cases hf
