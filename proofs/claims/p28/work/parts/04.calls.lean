/-! CONTRACTS of methods over the one memory: from X, the answer r0 and the memory X0 behind it -/
abbrev Ci (l : Launch) (y : MethodName) (ws : List Cond) (rm : Room) (D : va_G) (L : Nat → Nat) (ac : Nat → ClassId) (X : XM) (av : List Value) (r0 : Int32) (X0 : XM) : Prop := Met l y ws rm (va_Pc av (St D L ac X)) (va_Qi (fun (r : Int32) (Y : XM) => r = r0 ∧ Y = X0) (fun (Y : XM) t => St D L ac Y t) (fr L)) 0 0 (fr L)
abbrev Cv (l : Launch) (y : MethodName) (ws : List Cond) (rm : Room) (D : va_G) (L : Nat → Nat) (ac : Nat → ClassId) (X : XM) (av : List Value) (X0 : XM) : Prop := Met l y ws rm (va_Pc av (St D L ac X)) (va_Qv (fun (Y : XM) => Y = X0) (fun (Y : XM) t => St D L ac Y t) (fr L)) 0 0 (fr L)
abbrev Cr (l : Launch) (y : MethodName) (ws : List Cond) (rm : Room) (D : va_G) (L : Nat → Nat) (ac : Nat → ClassId) (X : XM) (av : List Value) (j0 : Nat) (X0 : XM) : Prop := Met l y ws rm (va_Pc av (St D L ac X)) (va_Qr (fun (u : Nat × XM) => u.1 = j0 ∧ u.2 = X0) (fun (u : Nat × XM) a t => a = L u.1 ∧ St D L ac u.2 t) (fr L)) 0 0 (fr L)
/-- what stands throughout a method's walk -/
def Fx (p : Program) (s : State) (m : MethodId) (args : Array Value) (meth : Method) (c : Code) (cc : ByteArray) (maxL : Nat) (ret : Option FieldType) (ws : List Cond) (own : String) (D : va_G) (ac : Nat → ClassId) : Prop :=
  p.tables.exec = Jvm.exec ∧ c.code = cc ∧ meth.sig.returnType = ret ∧ (∀ w ∈ ws, w.before args s = true) ∧ s.vm.findClass own = some m.cls ∧ meth.locks = false ∧ c.maxLocals = maxL ∧ va_K D vwCl (tys ac) s ∧ NX s
theorem Met.ofK {l : Launch} {y : MethodName} {ws ws' : List Cond} {rm : Room} {cc : ByteArray} {maxL : Nat} {ret : Option FieldType} {D : va_G} {L : Nat → Nat} {ac : Nat → ClassId} {X : XM} {av : List Value} {lv : List (Nat × Value)} {Qc : Array Value → State → Outcome → State → Prop} {free : Addr → Prop} (hy : plainName y.cls = true) (hw : ws = Cond.code y cc maxL ret :: ws') (hn : (lg_sl av).length ≤ maxL) (hlv : lv_args 0 av = lv)
    (body : ∀ (p : Program) (e : Env) (s : State) (m : MethodId) (below : List Frame) (meth : Method) (c : Code), Fx p s m av.toArray meth c cc maxL ret ws y.cls D ac → Oh D L ac X (fr L) s.heap s.heap [] → ∀ ls : Array Slot, lv_has ls maxL lv → W p l e (headSpec ws rm).room s m av.toArray below meth c s.heap [] 0 0 (MQ below Qc av.toArray s 0 0 free) (F0 m 0 ls [])) : Met l y ws rm (va_Pc av (St D L ac X)) Qc 0 0 free := by
  refine Met.ofW (cc := cc) (maxL := maxL) (ret := ret) hy hw ?_
  intro p e s m args below meth c s₁ B hml hv
  obtain ⟨rfl, hP, hst, hK, hN⟩ := hv
  have hl := lv_entry av (n := maxL) hn
  rw [hlv] at hl
  rw [lg_entry_eq]
  exact body p e s m below meth c ⟨B.exec, B.bytes, B.returns, atoms_spec (ws := ws) B.pre, findClass_of_methodNamed B.named, B.notSynchronized, hml, hK, hN⟩ ⟨hP, hst, va_S.rf⟩ _ hl
section KC
variable {p : Program} {l : Launch} {e : Env} {R : Room} {s : State} {m : MethodId} {args : Array Value} {below : List Frame} {meth : Method} {c : Code} {H : Heap} {locs : List Loc} {cells slots : Nat} {Q : State → Prop}
variable {cc : ByteArray} {pc : Nat} {ls : Array Slot} {rest st0 : List Value} {D : va_G} {L : Nat → Nat} {ac : Nat → ClassId} {X X0 : XM} {A : Nat → Prop} {r0 : Int32}
variable {y : MethodName} {bytes : ByteArray} {maxL nL n index : Nat} {ret : Option FieldType} {ws : List Cond} {rm : Room} {Ts : List Cond} {own C host : String} {As : List Value} {a : Array Value}
theorem k_ai (hr : va_Run p l e R s m args below meth c H locs cells slots 0 0 (F0 m pc ls st0) rest (va_Qi (fun (r : Int32) (Y : XM) => r = r0 ∧ Y = X0) (fun (Y : XM) t => St D L ac Y t) (fr L) a) (fr L)) (hA : ∀ q, fr L q → A q) (hO : Oh D L ac X A s.heap H locs)
    (kk : ∀ (H1 : Heap) (locs1 : List Loc), Oh D L ac X0 A s.heap H1 locs1 → W p l e R s m args below meth c H1 locs1 cells slots Q (F0 m (pc + 3) ls (.int r0 :: rest))) : W p l e R s m args below meth c H locs cells slots Q (F0 m pc ls st0) := by
  refine va_calli hr hO.2.2 (fun q _ h => hA q h) hA (fun r u t H1 locs1 ht hvm hw hB hz hk hS => ?_)
  obtain ⟨rfl, rfl⟩ := hw
  obtain ⟨b1, b2, -, -⟩ := hB
  rw [ht] at b1
  exact kk H1 locs1 ⟨b1, b2, hS⟩
theorem k_av (hr : va_Run p l e R s m args below meth c H locs cells slots 0 0 (F0 m pc ls st0) rest (va_Qv (fun (Y : XM) => Y = X0) (fun (Y : XM) t => St D L ac Y t) (fr L) a) (fr L)) (hA : ∀ q, fr L q → A q) (hO : Oh D L ac X A s.heap H locs)
    (kk : ∀ (H1 : Heap) (locs1 : List Loc), Oh D L ac X0 A s.heap H1 locs1 → W p l e R s m args below meth c H1 locs1 cells slots Q (F0 m (pc + 3) ls rest)) : W p l e R s m args below meth c H locs cells slots Q (F0 m pc ls st0) := by
  refine va_callv hr hO.2.2 (fun q _ h => hA q h) hA (fun u t H1 locs1 ht hvm hw hB hz hk hS => ?_)
  subst hw
  obtain ⟨b1, b2, -, -⟩ := hB
  rw [ht] at b1
  exact kk H1 locs1 ⟨b1, b2, hS⟩
theorem k_ar {j0 : Nat} (hr : va_Run p l e R s m args below meth c H locs cells slots 0 0 (F0 m pc ls st0) rest (va_Qr (fun (u : Nat × XM) => u.1 = j0 ∧ u.2 = X0) (fun (u : Nat × XM) a t => a = L u.1 ∧ St D L ac u.2 t) (fr L) a) (fr L)) (hA : ∀ q, fr L q → A q) (hO : Oh D L ac X A s.heap H locs)
    (kk : ∀ (H1 : Heap) (locs1 : List Loc), Oh D L ac X0 A s.heap H1 locs1 → W p l e R s m args below meth c H1 locs1 cells slots Q (F0 m (pc + 3) ls (.ref (L j0) :: rest))) : W p l e R s m args below meth c H locs cells slots Q (F0 m pc ls st0) := by
  refine va_callr hr hO.2.2 (fun q _ h => hA q h) hA (fun u ra t H1 locs1 ht hvm hw hB hz hk hS => ?_)
  obtain ⟨rfl, rfl⟩ := hw
  obtain ⟨rfl, b1, b2, -, -⟩ := hB
  rw [ht] at b1
  exact kk H1 locs1 ⟨b1, b2, hS⟩
/-- the start of a call of an object's method -/
theorem k_pv {j ci : Nat} {fs : List Value} {q : vw_C} (hK : va_K D vwCl (tys ac) s) (hN : NX s) (hO : Oh D L ac X A s.heap H locs) (hj : j < 103) (hct : ct L ac X j = .inr (ci, fs)) (hc : vwCl[ci]? = some q) (As : List Value) : PreV s H q.1 (L j) (va_Pc (.ref (L j) :: As) (St D L ac X)) As :=
  ⟨fun a U g mk z => ⟨z.1, z.2.calling g mk a⟩, va_recv hK hO.1 hc (fw_at hj hct), fun U hU hW => ⟨rfl, St.of hO hK hN hU hW⟩⟩
theorem k_ps (hK : va_K D vwCl (tys ac) s) (hN : NX s) (hO : Oh D L ac X A s.heap H locs) (As : List Value) : PreS s H (va_Pc As (St D L ac X)) As :=
  ⟨fun a U g mk z => ⟨z.1, z.2.calling g mk a⟩, fun U hU hW => ⟨rfl, St.of hO hK hN hU hW⟩⟩
/-- the ends -/
theorem e_i (hx : p.tables.exec = Jvm.exec) (hb : c.code = cc) (hr : meth.sig.returnType = some .int) {v : Int32} (hK : va_K D vwCl (tys ac) s) (hN : NX s) (hO : Oh D L ac X (fr L) s.heap H locs) (hlocks : meth.locks = false) (hdg : decode cc pc = .ok (.ireturn, 1)) : W p l e R s m args below meth c H locs cells slots (MQ below (va_Qi (fun (r : Int32) (Y : XM) => r = v ∧ Y = X) (fun (Y : XM) t => St D L ac Y t) (fr L)) args s cells slots (fr L)) (F0 m pc ls [.int v]) :=
  W.iret hx hb hr (fun t ht hW => ⟨⟨v, X, rfl, ⟨rfl, rfl⟩, St.of hO hK hN ht hW⟩, hO.2.2.F ht⟩) hO.2.2.2.2 hdg hlocks
theorem e_n (hx : p.tables.exec = Jvm.exec) (hb : c.code = cc) {ty : FieldType} (hr : meth.sig.returnType = some ty) {v : Int32} (hn : narrow ty (.int v) = .int v) (hK : va_K D vwCl (tys ac) s) (hN : NX s) (hO : Oh D L ac X (fr L) s.heap H locs) (hlocks : meth.locks = false) (hdg : decode cc pc = .ok (.ireturn, 1)) : W p l e R s m args below meth c H locs cells slots (MQ below (va_Qi (fun (r : Int32) (Y : XM) => r = v ∧ Y = X) (fun (Y : XM) t => St D L ac Y t) (fr L)) args s cells slots (fr L)) (F0 m pc ls [.int v]) :=
  W.zret hx hb hr hn (fun t ht hW => ⟨⟨v, X, rfl, ⟨rfl, rfl⟩, St.of hO hK hN ht hW⟩, hO.2.2.F ht⟩) hO.2.2.2.2 hdg hlocks
theorem e_v (hx : p.tables.exec = Jvm.exec) (hb : c.code = cc) (hr : meth.sig.returnType = none) (hK : va_K D vwCl (tys ac) s) (hN : NX s) (hO : Oh D L ac X (fr L) s.heap H locs) (hlocks : meth.locks = false) (hdg : decode cc pc = .ok (.return_, 1)) : W p l e R s m args below meth c H locs cells slots (MQ below (va_Qv (fun (Y : XM) => Y = X) (fun (Y : XM) t => St D L ac Y t) (fr L)) args s cells slots (fr L)) (F0 m pc ls []) :=
  W.vret hx hb hr (fun t ht hW => ⟨⟨X, rfl, rfl, St.of hO hK hN ht hW⟩, hO.2.2.F ht⟩) hO.2.2.2.2 hdg hlocks
theorem e_r (hx : p.tables.exec = Jvm.exec) (hb : c.code = cc) {C : String} (hr : meth.sig.returnType = some (.object C)) {j : Nat} (hK : va_K D vwCl (tys ac) s) (hN : NX s) (hO : Oh D L ac X (fr L) s.heap H locs) (hlocks : meth.locks = false) (hdg : decode cc pc = .ok (.areturn, 1)) : W p l e R s m args below meth c H locs cells slots (MQ below (va_Qr (fun (u : Nat × XM) => u.1 = j ∧ u.2 = X) (fun (u : Nat × XM) a t => a = L u.1 ∧ St D L ac u.2 t) (fr L)) args s cells slots (fr L)) (F0 m pc ls [.ref (L j)]) :=
  W.aret hx hb hr (Or.inl ⟨C, rfl⟩) (Or.inr ⟨L j, rfl⟩) (fun t ht hW => ⟨⟨(j, X), L j, rfl, ⟨rfl, rfl⟩, rfl, St.of hO hK hN ht hW⟩, hO.2.2.F ht⟩) hO.2.2.2.2 hdg hlocks
theorem lv_tope {x z : Int32} (h : x = z) (k : W p l e R s m args below meth c H locs cells slots Q (F0 m pc ls (.int z :: rest))) : W p l e R s m args below meth c H locs cells slots Q (F0 m pc ls (.int x :: rest)) := h ▸ k
theorem lv_topL {x z : Int64} (h : x = z) (k : W p l e R s m args below meth c H locs cells slots Q (F0 m pc ls (.long z :: rest))) : W p l e R s m args below meth c H locs cells slots Q (F0 m pc ls (.long x :: rest)) := h ▸ k
theorem k_tabIn (hx : p.tables.exec = Jvm.exec) (hb : c.code = cc) {dflt lo hi : Int} {offs : Array Int} {len : Nat} {x v : Int32} {off : Int} {tgt : Nat} (hv : x = v) (hdg : decode cc pc = .ok (.tableswitch dflt lo hi offs, len)) (h1 : ¬ v.toInt < lo) (h2 : ¬ hi < v.toInt) (ho : offs[(v.toInt - lo).toNat]? = some off) (ht : (pc : Int) + off = (tgt : Int))
    (k : W p l e R s m args below meth c H locs cells slots Q (F0 m tgt ls rest)) : W p l e R s m args below meth c H locs cells slots Q (F0 m pc ls (.int x :: rest)) := by
  subst hv
  exact lv_tableIn hx hb hdg h1 h2 ho ht k
theorem k_lkIn (hx : p.tables.exec = Jvm.exec) (hb : c.code = cc) {dflt : Int} {ps : Array (Int × Int)} {len : Nat} {x v : Int32} {off : Int} {tgt : Nat} (hv : x = v) (hdg : decode cc pc = .ok (.lookupswitch dflt ps, len)) (hp : (ps.toList.zip (ps.toList.drop 1)).all (fun (a, next) => a.1 < next.1) = true) (ho : Op.lookupswitch.offset ps.toList dflt v.toInt = off) (ht : (pc : Int) + off = (tgt : Int))
    (k : W p l e R s m args below meth c H locs cells slots Q (F0 m tgt ls rest)) : W p l e R s m args below meth c H locs cells slots Q (F0 m pc ls (.int x :: rest)) := by
  subst hv
  exact lv_lookup hx hb hdg hp ho ht k
end KC
/-- a table's default: none of its keys -/
theorem tb_out {x : Int32} {lo hi : Int} (n : Nat) (hn : hi < lo + n) (h : ∀ k : Nat, k < n → ¬ x = Int32.ofInt (lo + k)) : x.toInt < lo ∨ hi < x.toInt := by
  by_cases h1 : x.toInt < lo
  · exact Or.inl h1
  · by_cases h2 : hi < x.toInt
    · exact Or.inr h2
    · refine absurd ?_ (h (x.toInt - lo).toNat (by omega))
      rw [show lo + ((x.toInt - lo).toNat : Int) = x.toInt by omega]
      exact (Int32.ofInt_toInt x).symm
/-! THE PURE FORM of a method's code: an Option, none where a guard fails -/
def zi {α β : Type} (x : Option (α × XM)) (k : α → XM → Option β) : Option β := match x with
  | none => none
  | some z => k z.1 z.2
theorem zi_some {α β : Type} {x : Option (α × XM)} {k : α → XM → Option β} {z : β} (h : zi x k = some z) : ∃ r X, x = some (r, X) ∧ k r X = some z := by
  cases x with
  | none => simp [zi] at h
  | some w => exact ⟨w.1, w.2, rfl, h⟩
def zv {β : Type} (x : Option XM) (k : XM → Option β) : Option β := match x with
  | none => none
  | some z => k z
theorem zv_some {β : Type} {x : Option XM} {k : XM → Option β} {z : β} (h : zv x k = some z) : ∃ X, x = some X ∧ k X = some z := by
  cases x with
  | none => simp [zv] at h
  | some w => exact ⟨w, rfl, h⟩
def zl {α β : Type} (x : α) (k : α → Option β) : Option β := k x
theorem zl_some {α β : Type} {x : α} {k : α → Option β} {z : β} (h : zl x k = some z) : ∃ y, x = y ∧ k y = some z := ⟨x, rfl, h⟩
def zd {β : Type} (i : Int32) (n : Nat) (x : Option β) : Option β := if i < 0 ∨ n ≤ i.toNatClampNeg then none else x
theorem zd_some {β : Type} {i : Int32} {n : Nat} {x : Option β} {z : β} (h : zd i n x = some z) : vp_in i n ∧ x = some z := by
  unfold zd at h
  split at h
  · cases h
  · next hc => exact ⟨hc, h⟩
theorem zd_ok {β : Type} {i : Int32} {n : Nat} {x : Option β} (h : vp_in i n) : zd i n x = x := if_neg h
def zz {β : Type} (i : Int32) (x : Option β) : Option β := if i = 0 then none else x
theorem zz_some {β : Type} {i : Int32} {x : Option β} {z : β} (h : zz i x = some z) : ¬ i = 0 ∧ x = some z := by
  unfold zz at h
  split at h
  · cases h
  · next hc => exact ⟨hc, h⟩
def zb {β : Type} (v : Int32) (x : Option β) : Option β := if v = 0 ∨ v = 1 then x else none
theorem zb_some {β : Type} {v : Int32} {x : Option β} {z : β} (h : zb v x = some z) : (v = 0 ∨ v = 1) ∧ x = some z := by
  unfold zb at h
  split at h
  · next hc => exact ⟨hc, h⟩
  · cases h
def zc {β : Type} (v : Int32) (x : Option β) : Option β := if v.toUInt32.toUInt16.toUInt32.toInt32 = v then x else none
theorem zc_some {β : Type} {v : Int32} {x : Option β} {z : β} (h : zc v x = some z) : v.toUInt32.toUInt16.toUInt32.toInt32 = v ∧ x = some z := by
  unfold zc at h
  split at h
  · next hc => exact ⟨hc, h⟩
  · cases h
theorem zc_n {v : Int32} (h : v.toUInt32.toUInt16.toUInt32.toInt32 = v) : narrow .char (.int v) = .int v := by
  show Value.int v.toUInt32.toUInt16.toUInt32.toInt32 = .int v
  rw [h]
theorem vp_lt {i : Int32} {n : Nat} (h : vp_in i n) : i.toNatClampNeg < n := Nat.not_le.mp fun q => h (Or.inr q)
abbrev o_rem (x y : Int32) : Int32 := x - x / y * y
abbrev o_shl (x y : Int32) : Int32 := x <<< (y &&& 31)
abbrev o_shr (x y : Int32) : Int32 := x >>> (y &&& 31)
abbrev o_usr (x y : Int32) : Int32 := (x.toUInt32 >>> (y.toUInt32 &&& Int32.toUInt32 31)).toInt32
abbrev o_lus (x : Int64) (y : Int32) : Int64 := (x.toUInt64 >>> (y.toInt64.toUInt64 &&& Int64.toUInt64 63)).toInt64
abbrev o_lsl (x : Int64) (y : Int32) : Int64 := x <<< (y.toInt64 &&& 63)
/-- a loop's fuel: never the reason why it ends -/
def fuel : Nat := 1000000
theorem fuel_ge : 1000000 ≤ fuel := Nat.le_refl _
/-! what the cells of a kind show -/
theorem ow_G {g k : Nat} (hg : g < 11) (hk : k < 7) : owner g k = aG g := by unfold owner; rw [if_pos hg, if_pos hk]
theorem ow_P {g p k : Nat} (hg : g < 11) (h1 : 11 + 4 * p ≤ k) (h2 : k < 15 + 4 * p) : owner g k = aP g p := by
  unfold owner
  rw [if_pos hg, if_neg (by omega), if_neg (by omega), if_neg (by omega), show (k - 11) / 4 = p by omega]
theorem ow_Y9 {g w : Nat} (hg : g < 11) (hw : w < 2) : owner g (9 + w) = aY g w := by
  match w, hw with
  | 0, _ => unfold owner; rw [if_pos hg, if_neg (by decide), if_pos (by decide)]
  | 1, _ => unfold owner; rw [if_pos hg, if_neg (by decide), if_neg (by decide), if_pos (by decide)]
theorem ow_Y7 {g w : Nat} (hg : g < 11) (hw : w < 2) : owner g (7 + w) = aY g w := by
  match w, hw with
  | 0, _ => unfold owner; rw [if_pos hg, if_neg (by decide), if_pos (by decide)]
  | 1, _ => unfold owner; rw [if_pos hg, if_neg (by decide), if_neg (by decide), if_pos (by decide)]
theorem zo_eq {D : va_G} {L : Nat → Nat} {ac : Nat → ClassId} {Y Y' : XM} {A : Nat → Prop} {H0 H : Heap} {locs : List Loc} (h : Y = Y') (hO : Oh D L ac Y A H0 H locs) : Oh D L ac Y' A H0 H locs := h ▸ hO
theorem lv_topr {p : Program} {l : Launch} {e : Env} {R : Room} {s : State} {m : MethodId} {args : Array Value} {below : List Frame} {meth : Method} {c : Code} {H : Heap} {locs : List Loc} {cells slots : Nat} {Q : State → Prop} {pc : Nat} {ls : Array Slot} {rest : List Value} {a b : Nat} (h : a = b) (k : W p l e R s m args below meth c H locs cells slots Q (F0 m pc ls (.ref b :: rest))) : W p l e R s m args below meth c H locs cells slots Q (F0 m pc ls (.ref a :: rest)) := h ▸ k
theorem lk_out4 {x : Int32} {a1 a2 a3 a4 : Int} {o1 o2 o3 o4 d : Int} (h1 : ¬ x = Int32.ofInt a1) (h2 : ¬ x = Int32.ofInt a2) (h3 : ¬ x = Int32.ofInt a3) (h4 : ¬ x = Int32.ofInt a4) : Op.lookupswitch.offset [(a1, o1), (a2, o2), (a3, o3), (a4, o4)] d x.toInt = d := by
  have e : ∀ a : Int, ¬ x = Int32.ofInt a → ¬ a = x.toInt := fun a h h2 => h (by rw [h2]; exact (Int32.ofInt_toInt x).symm)
  have e' : ∀ a : Int, ¬ x = Int32.ofInt a → ¬ x.toInt = a := fun a h h2 => e a h h2.symm
  simp [Op.lookupswitch.offset, e _ h1, e _ h2, e _ h3, e _ h4, e' _ h1, e' _ h2, e' _ h3, e' _ h4]
def fsG (L : Nat → Nat) (X : XM) (g : Nat) : List Value := [.int (X g 0), .int (X g 1), .ref (L (aA g)), .int (X g 2), .ref (L (aY g 0)), .ref (L (aY g 1)), .int (X g 3), .int (X g 6), .int (X g 4), .int (X g 5)]
def fsP (X : XM) (g p : Nat) : List Value := [.int (X g (11 + 4 * p)), .int (X g (14 + 4 * p)), .int (X g (12 + 4 * p)), .int (X g (13 + 4 * p))]
def fsY (X : XM) (g w : Nat) : List Value := [.int (X g (9 + w)), .int (X g (7 + w))]
def fsS (L : Nat → Nat) (X : XM) (w : Nat) : List Value := [.ref (L (aG (9 + w))), .int (X 12 w)]
theorem cn_G {L : Nat → Nat} {ac : Nat → ClassId} {X : XM} (g : Nat) : ct L ac X (aG g) = .inr (0, fsG L X g) := ct_G g
theorem cn_P {L : Nat → Nat} {ac : Nat → ClassId} {X : XM} (g p : Nat) (hp : p < 4) : ct L ac X (aP g p) = .inr (3, fsP X g p) := ct_P g p hp
theorem cn_Y {L : Nat → Nat} {ac : Nat → ClassId} {X : XM} (g w : Nat) (hw : w < 2) : ct L ac X (aY g w) = .inr (4, fsY X g w) := ct_Y g w hw
theorem cn_S {L : Nat → Nat} {ac : Nat → ClassId} {X : XM} (w : Nat) (hw : w < 2) : ct L ac X (aS w) = .inr (6, fsS L X w) := ct_S w hw
section PF
variable {L : Nat → Nat} {X : XM} {v : Int32}
theorem pf_G0 (g : Nat) : fsG L (xup X g 0 v) g = (fsG L X g).set 0 (.int v) := by simp [fsG, xup]
theorem pf_G1 (g : Nat) : fsG L (xup X g 1 v) g = (fsG L X g).set 1 (.int v) := by simp [fsG, xup]
theorem pf_G2 (g : Nat) : fsG L (xup X g 2 v) g = (fsG L X g).set 3 (.int v) := by simp [fsG, xup]
theorem pf_G3 (g : Nat) : fsG L (xup X g 3 v) g = (fsG L X g).set 6 (.int v) := by simp [fsG, xup]
theorem pf_G6 (g : Nat) : fsG L (xup X g 6 v) g = (fsG L X g).set 7 (.int v) := by simp [fsG, xup]
theorem pf_G4 (g : Nat) : fsG L (xup X g 4 v) g = (fsG L X g).set 8 (.int v) := by simp [fsG, xup]
theorem pf_G5 (g : Nat) : fsG L (xup X g 5 v) g = (fsG L X g).set 9 (.int v) := by simp [fsG, xup]
theorem pf_P0 (g p : Nat) : fsP (xup X g (11 + 4 * p) v) g p = (fsP X g p).set 0 (.int v) := by simp [fsP, xup]
theorem pf_P3 (g p : Nat) : fsP (xup X g (14 + 4 * p) v) g p = (fsP X g p).set 1 (.int v) := by simp [fsP, xup]
theorem pf_P1 (g p : Nat) : fsP (xup X g (12 + 4 * p) v) g p = (fsP X g p).set 2 (.int v) := by simp [fsP, xup]
theorem pf_P2 (g p : Nat) : fsP (xup X g (13 + 4 * p) v) g p = (fsP X g p).set 3 (.int v) := by simp [fsP, xup]
theorem pf_Y9 (g w : Nat) (hw : w < 2) : fsY (xup X g (9 + w) v) g w = (fsY X g w).set 0 (.int v) := by
  match w, hw with
  | 0, _ => simp [fsY, xup]
  | 1, _ => simp [fsY, xup]
theorem pf_Y7 (g w : Nat) (hw : w < 2) : fsY (xup X g (7 + w) v) g w = (fsY X g w).set 1 (.int v) := by
  match w, hw with
  | 0, _ => simp [fsY, xup]
  | 1, _ => simp [fsY, xup]
theorem pf_S (w : Nat) : fsS L (xup X 12 w v) w = (fsS L X w).set 1 (.int v) := by simp [fsS, xup]
end PF
