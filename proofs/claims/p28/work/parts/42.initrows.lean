/-! ROWS FOR CONSTRUCTORS: worlds as lists, the array classes known from the start -/
def AOw (U : State) : Prop := va_AO RX3 U ∧ va_AO RX0 U ∧ va_AO RX6 U
theorem AOw.moved {u U : State} (hvm : u.vm.Alike U.vm) (h : AOw u) : AOw U := ⟨va_AO.moved hvm h.1, va_AO.moved hvm h.2.1, va_AO.moved hvm h.2.2⟩
def KA (D : va_G) (ac : Nat → ClassId) (U : State) : Prop := va_K D vwCl (tys ac) U ∧ NX U ∧ AOw U
theorem KA.calling {D : va_G} {ac : Nat → ClassId} {U : State} (g : JFrame) (mk : MethodId) (a : Array Value) (h : KA D ac U) : KA D ac (U.calling g mk a) := ⟨va_K.moved (u := U) (U := U.calling g mk a) (Vm.Alike.refl U.vm) h.1, NX.same (u := U) rfl h.2.1, AOw.moved (u := U) (U := U.calling g mk a) (Vm.Alike.refl U.vm) h.2.2⟩
theorem KA.warm {D : va_G} {ac : Nat → ClassId} {s U : State} (hW : s.WarmedH U.vm) (h : KA D ac s) : KA D ac U := ⟨va_K.moved hW.alike h.1, NX.warm hW h.2.1, AOw.moved hW.alike h.2.2⟩
theorem va_RA_inj {U : State} {c1 c2 : ClassId} {ty : FieldType} (h1 : va_RA U c1 ty) (h2 : va_RA U c2 ty) : c1 = c2 := by
  cases ty with
  | object C =>
    obtain ⟨_, _, _, _, _, e1⟩ := h1
    obtain ⟨_, _, _, _, _, e2⟩ := h2
    exact Option.some.inj (e1.symm.trans e2)
  | _ => exact Option.some.inj ((show U.vm.findClass _ = some c1 from h1).symm.trans h2)
/-- a constructor's contract: from a blank cell at h, the cells that it makes at u 0, u 1 .. -/
abbrev Cn (l : Launch) (y : MethodName) (ws : List Cond) (rm : Room) (D : va_G) (ac : Nat → ClassId) (h ci : Nat) (fs : List Value) (Wf : (Nat → Nat → Nat) → va_W) (mc ms sz : Nat) : Prop :=
  Met l y ws rm (va_Pc [.ref h] (fun U => U.heap.size = sz ∧ va_P D vwCl [(h, .inr (ci, fs))] U.heap ∧ KA D ac U)) (va_Qv (fun _ : Nat → Nat → Nat => True) (fun u t => va_P D vwCl (Wf u) t.heap ∧ va_D (va_A [(h, .inr (ci, fs))] sz) (Wf u)) (va_A [(h, .inr (ci, fs))] sz)) mc ms (va_A [(h, .inr (ci, fs))] sz)
theorem va_joinL {A0 : Nat → Prop} {D : va_G} {cl : List vw_C} {ws w1 : va_W} {x : Nat × va_E} {H H1 : Heap} (hP : va_P D cl (ws ++ [x]) H) (hD : va_D A0 (ws ++ [x])) (hk : ∀ q : Nat, q < H.size → ¬ va_A [x] H.size q → H1[q]? = H[q]?) (hF : ∀ q, va_A [x] H.size q → A0 q) (hP1 : va_P D cl w1 H1) (hD1 : va_D (va_A [x] H.size) w1) : va_P D cl (ws ++ w1) H1 ∧ va_D A0 (ws ++ w1) := by
  have hx : (ws ++ [x])[ws.length]? = some x := by simp
  have hin : ∀ (k : Nat) (q : Nat × va_E), ws[k]? = some q → (ws ++ [x])[k]? = some q := by
    intro k q h
    rw [List.getElem?_append_left (List.getElem?_eq_some_iff.mp h).1]
    exact h
  have apart : ∀ (k : Nat) (q : Nat × va_E), ws[k]? = some q → q.1 < H.size ∧ ¬ va_A [x] H.size q.1 := by
    intro k q hq
    have hl := (hP k q (hin k q hq)).lt
    refine ⟨hl, fun h => ?_⟩
    rcases h with ⟨k2, e, h⟩ | h
    · have hk2 : k2 < 1 := (List.getElem?_eq_some_iff.mp h).1
      rw [show k2 = 0 by omega] at h
      cases h
      have e1 := hD.1 k ws.length q (q.1, e) (hin k q hq) hx rfl
      have := (List.getElem?_eq_some_iff.mp hq).1
      omega
    · omega
  have hDw : va_D A0 ws := ⟨fun i j p q hi hj hpq => hD.1 i j p q (hin i p hi) (hin j q hj) hpq, fun k q h => hD.2 k q (hin k q h)⟩
  refine ⟨va_P.app (fun k q hq => ?_) hP1, va_D.app hDw (hD1.weaken (fun k q _ h => hF q.1 h)) (fun i j p q hp hq hpq => ?_)⟩
  · obtain ⟨g1, g2⟩ := apart k q hq
    exact (hP k q (hin k q hq)).kept (hk q.1 g1 g2)
  · exact (apart i p hp).2 (by rw [hpq]; exact hD1.2 j q hq)
section KI
variable {p : Program} {l : Launch} {e : Env} {R : Room} {s : State} {m : MethodId} {args : Array Value} {below : List Frame} {meth : Method} {c : Code} {H : Heap} {locs : List Loc} {cells slots : Nat} {Q : State → Prop}
variable {cc : ByteArray} {pc : Nat} {ls : Array Slot} {rest : List Value} {D : va_G} {ac : Nat → ClassId} {A : Nat → Prop} {ws0 : va_W} {H0 : Heap}
/-- behind the call of a constructor on the world's last cell -/
theorem k_made {ci mc ms q : Nat} {fs : List Value} {Wf : (Nat → Nat → Nat) → va_W} {a : Array Value} {st0 : List Value} (hr : va_Run p l e R s m args below meth c H locs cells slots mc ms (F0 m pc ls st0) rest (va_Qv (fun _ : Nat → Nat → Nat => True) (fun u t => va_P D vwCl (Wf u) t.heap ∧ va_D (va_A [(q, .inr (ci, fs))] H.size) (Wf u)) (va_A [(q, .inr (ci, fs))] H.size) a) (va_A [(q, .inr (ci, fs))] H.size))
    (hP : va_P D vwCl (ws0 ++ [(q, .inr (ci, fs))]) H) (hD : va_D A (ws0 ++ [(q, .inr (ci, fs))])) (hS : va_S A H0 H locs) (hA : ∀ q, H0.size ≤ q → A q)
    (kk : ∀ (u : Nat → Nat → Nat) (H1 : Heap) (locs1 : List Loc), va_P D vwCl (ws0 ++ Wf u) H1 → va_D A (ws0 ++ Wf u) → va_S A H0 H1 locs1 → W p l e R s m args below meth c H1 locs1 (cells + mc) (slots + ms) Q (F0 m (pc + 3) ls rest)) : W p l e R s m args below meth c H locs cells slots Q (F0 m pc ls st0) := by
  have hF : ∀ x, va_A [(q, .inr (ci, fs))] H.size x → A x := by
    intro x h
    rcases h with ⟨k, e', h⟩ | h
    · have hk : k < 1 := (List.getElem?_eq_some_iff.mp h).1
      rw [show k = 0 by omega] at h
      cases h
      exact hD.2 ws0.length (q, .inr (ci, fs)) (by simp)
    · exact hA x (Nat.le_trans hS.1 h)
  refine va_callv hr hS (fun x _ h => hF x h) hF (fun u t H1 locs1 ht hvm hw hB hz hk hS1 => ?_)
  obtain ⟨b1, b2⟩ := hB
  rw [ht] at b1
  obtain ⟨j1, j2⟩ := va_joinL hP hD hk hF b1 b2
  exact kk u H1 locs1 j1 j2 hS1
theorem k_pre {ci q : Nat} {fs : List Value} (hKA : KA D ac s) (hP : va_P D vwCl (ws0 ++ [(q, .inr (ci, fs))]) H) : PreS s H (va_Pc [.ref q] (fun U => U.heap.size = H.size ∧ va_P D vwCl [(q, .inr (ci, fs))] U.heap ∧ KA D ac U)) [.ref q] := by
  refine ⟨fun a U g mk z => ⟨z.1, z.2.1, z.2.2.1, z.2.2.2.calling g mk a⟩, fun U hU hW => ⟨rfl, by rw [hU], ?_, hKA.warm hW⟩⟩
  rw [hU]
  intro k x h
  have hk : k < 1 := (List.getElem?_eq_some_iff.mp h).1
  rw [show k = 0 by omega] at h
  cases h
  exact hP ws0.length _ (by simp)
theorem k_newa (hx : p.tables.exec = Jvm.exec) (hb : c.code = cc) {atype : ArrayType} {t : Nat} (harr : (Cond.arrayClass (newarray.typeOf atype)).before args s = true) {ty : FieldType} (hty : newarray.typeOf atype = ty) (hdv : defaultValue ty = .int 0) (hK : va_K D vwCl (tys ac) s) (ht : (tys ac)[t]? = some (ac t, ty)) (hP : va_P D vwCl ws0 H) (hD : va_D A ws0) (hS : va_S A H0 H locs) (hA : ∀ q, H0.size ≤ q → A q)
    {n : Int32} {N' : Nat} (hn : ¬ n < 0) (hN : n.toNatClampNeg = N') (hbytes : N' * componentBytes ty ≤ 536870912) (hcells : cells + 1 ≤ R.cells) (hslots : slots + N' ≤ R.slots) (hdg : decode cc pc = .ok (.newarray atype, 2))
    (kk : ∀ (q : Nat) (H1 : Heap), va_P D vwCl (ws0 ++ [(q, .inl (ac t, N', .inl (fun _ => 0)))]) H1 → va_D A (ws0 ++ [(q, .inl (ac t, N', .inl (fun _ => 0)))]) → va_S A H0 H1 locs →
      W p l e R s m args below meth c H1 locs (cells + 1) (slots + N') Q (F0 m (pc + 2) ls (.ref q :: rest))) : W p l e R s m args below meth c H locs cells slots Q (F0 m pc ls (.int n :: rest)) := by
  refine va_newa hx hb harr hty hK hP hD hS hA (a0 := (N', .inl (fun _ => 0))) (fun cA => by rw [vp_cell_i, hdv]) hn hN hbytes hcells hslots hdg (fun q cA H1 hK1 hP1 hD1 hS1 => ?_)
  have e : cA = ac t := va_RA_inj (hK1.2 6 (cA, ty) rfl).2 (hK.2 t _ ht).2
  subst e
  exact kk q H1 hP1 hD1 hS1
theorem k_newq (hx : p.tables.exec = Jvm.exec) (hb : c.code = cc) {own C : String} {index t : Nat} (hown : s.vm.findClass own = some m.cls) (hclink : (Cond.classLink own index C).before args s = true) (hover : va_AO C s) (hK : va_K D vwCl (tys ac) s) (ht : (tys ac)[t]? = some (ac t, .object C)) (hP : va_P D vwCl ws0 H) (hD : va_D A ws0) (hS : va_S A H0 H locs) (hA : ∀ q, H0.size ≤ q → A q)
    {n : Int32} {N' : Nat} (hn : ¬ n < 0) (hN : n.toNatClampNeg = N') (hbytes : N' * 4 ≤ 536870912) (hcells : cells + 1 ≤ R.cells) (hslots : slots + N' ≤ R.slots) (hdg : decode cc pc = .ok (.anewarray index, 3))
    (kk : ∀ (q : Nat) (H1 : Heap), va_P D vwCl (ws0 ++ [(q, .inl (ac t, N', .inr (.inr (.inr (.inr (fun _ => none))))))]) H1 → va_D A (ws0 ++ [(q, .inl (ac t, N', .inr (.inr (.inr (.inr (fun _ => none))))))]) → va_S A H0 H1 locs →
      W p l e R s m args below meth c H1 locs (cells + 1) (slots + N') Q (F0 m (pc + 3) ls (.ref q :: rest))) : W p l e R s m args below meth c H locs cells slots Q (F0 m pc ls (.int n :: rest)) := by
  refine va_newq hx hb hown hclink hover hK hP hD hS hA hn hN hbytes hcells hslots hdg (fun q cA H1 hK1 hP1 hD1 hS1 => ?_)
  have e : cA = ac t := va_RA_inj (hK1.2 6 (cA, .object C) rfl).2 (hK.2 t _ ht).2
  subst e
  exact kk q H1 hP1 hD1 hS1
end KI
theorem arrV_cong {cI : ClassId} {N : Nat} {f g : Nat → Value} (h : ∀ j, j < N → f j = g j) : arrV cI N f = arrV cI N g := by
  unfold arrV
  rw [show (fun j : Fin N => f j.val) = fun j : Fin N => g j.val from funext fun j => h j.val j.isLt]
/-- an array of references holds what its first n places say -/
theorem va_P.refs {D : va_G} {cl : List vw_C} {ws ws' : va_W} {H : Heap} (i : Nat) {a : Nat} {cA : ClassId} {n : Nat} {f f' : Nat → Option Nat} (hP : va_P D cl ws H) (h : ws[i]? = some (a, .inl (cA, n, .inr (.inr (.inr (.inr f)))))) (hf : ∀ j, j < n → f j = f' j) (hws : ws.set i (a, .inl (cA, n, .inr (.inr (.inr (.inr f'))))) = ws') : va_P D cl ws' H := by
  subst hws
  have hl := (List.getElem?_eq_some_iff.mp h).1
  intro k q hk
  by_cases hki : k = i
  · subst hki
    rw [List.getElem?_set_self hl] at hk
    cases hk
    have h0 := hP k _ h
    show H[a]? = some (vp_cell cA (n, .inr (.inr (.inr (.inr f')))))
    have e : vp_cell cA (n, .inr (.inr (.inr (.inr f')))) = vp_cell cA (n, .inr (.inr (.inr (.inr f)))) := by
      rw [vp_cell_q, vp_cell_q]
      exact arrV_cong (fun j hj => by rw [hf j hj])
    rw [e]
    exact h0
  · rw [List.getElem?_set_ne (Ne.symm hki)] at hk
    exact hP k q hk
theorem va_D.setD {A : Nat → Prop} {ws ws' : va_W} (i : Nat) {a : Nat} {e0 e : va_E} (hD : va_D A ws) (h : ws[i]? = some (a, e0)) (hws : ws.set i (a, e) = ws') : va_D A ws' := hws ▸ hD.set h
