/-! NEST LINKS: all of the tables, carried along with the world -/
def isNest : Cond → Bool
  | .fieldLinkNest _ _ _ _ _ _ => true
  | .methodLinkNest _ _ _ _ => true
  | _ => false
def nxW : List Cond := [.methodLinkNest "PoisonPiles" 11 ⟨"PoisonPiles$Game", "<init>", "()V"⟩ "PoisonPiles",
  .methodLinkNest "PoisonPiles$Game" 26 ⟨"PoisonPiles$Player", "<init>", "()V"⟩ "PoisonPiles",
  .fieldLinkNest "PoisonPiles$Game" 64 "PoisonPiles$Player" "gains" "I" "PoisonPiles",
  .fieldLinkNest "PoisonPiles" 126 "PoisonPiles$Player" "gains" "I" "PoisonPiles",
  .fieldLinkNest "PoisonPiles$Solver" 88 "PoisonPiles$Player" "passesLeft" "I" "PoisonPiles",
  .fieldLinkNest "PoisonPiles$Game" 75 "PoisonPiles$Player" "passesLeft" "I" "PoisonPiles",
  .fieldLinkNest "PoisonPiles" 131 "PoisonPiles$Player" "passesLeft" "I" "PoisonPiles",
  .methodLinkNest "PoisonPiles$Game" 34 ⟨"PoisonPiles$Pile", "<init>", "()V"⟩ "PoisonPiles",
  .fieldLinkNest "PoisonPiles$Game" 61 "PoisonPiles$Pile" "tokens" "I" "PoisonPiles",
  .fieldLinkNest "PoisonPiles$Solver" 72 "PoisonPiles$Pile" "tokens" "I" "PoisonPiles",
  .fieldLinkNest "PoisonPiles" 100 "PoisonPiles$Pile" "tokens" "I" "PoisonPiles",
  .fieldLinkNest "PoisonPiles$Game" 58 "PoisonPiles$Pile" "came" "I" "PoisonPiles",
  .fieldLinkNest "PoisonPiles" 113 "PoisonPiles$Pile" "came" "I" "PoisonPiles",
  .fieldLinkNest "PoisonPiles$Solver" 99 "PoisonPiles$Pile" "worth" "I" "PoisonPiles",
  .fieldLinkNest "PoisonPiles" 106 "PoisonPiles$Pile" "worth" "I" "PoisonPiles",
  .fieldLinkNest "PoisonPiles$Game" 101 "PoisonPiles$Pile" "worth" "I" "PoisonPiles",
  .fieldLinkNest "PoisonPiles$Solver" 102 "PoisonPiles$Pile" "poisoned" "Z" "PoisonPiles",
  .fieldLinkNest "PoisonPiles" 109 "PoisonPiles$Pile" "poisoned" "Z" "PoisonPiles",
  .fieldLinkNest "PoisonPiles$Game" 104 "PoisonPiles$Pile" "poisoned" "Z" "PoisonPiles",
  .fieldLinkNest "PoisonPiles$Solver" 93 "PoisonPiles$Game" "takes" "I" "PoisonPiles",
  .fieldLinkNest "PoisonPiles" 116 "PoisonPiles$Game" "takes" "I" "PoisonPiles",
  .fieldLinkNest "PoisonPiles$Solver" 96 "PoisonPiles$Game" "bonus" "I" "PoisonPiles",
  .fieldLinkNest "PoisonPiles" 156 "PoisonPiles$Game" "bonus" "I" "PoisonPiles",
  .fieldLinkNest "PoisonPiles$Solver" 66 "PoisonPiles$Game" "piles" "[LPoisonPiles$Pile;" "PoisonPiles",
  .fieldLinkNest "PoisonPiles" 96 "PoisonPiles$Game" "piles" "[LPoisonPiles$Pile;" "PoisonPiles",
  .fieldLinkNest "PoisonPiles" 137 "PoisonPiles$Game" "pileCount" "I" "PoisonPiles",
  .fieldLinkNest "PoisonPiles" 225 "PoisonPiles$Game" "first" "LPoisonPiles$Player;" "PoisonPiles",
  .fieldLinkNest "PoisonPiles" 229 "PoisonPiles$Game" "second" "LPoisonPiles$Player;" "PoisonPiles",
  .fieldLinkNest "PoisonPiles$Solver" 81 "PoisonPiles$Game" "mover" "I" "PoisonPiles",
  .fieldLinkNest "PoisonPiles" 140 "PoisonPiles$Game" "mover" "I" "PoisonPiles",
  .fieldLinkNest "PoisonPiles" 150 "PoisonPiles$Game" "moveCount" "I" "PoisonPiles",
  .fieldLinkNest "PoisonPiles$Solver" 77 "PoisonPiles$Game" "passAhead" "Z" "PoisonPiles",
  .fieldLinkNest "PoisonPiles" 153 "PoisonPiles$Game" "passAhead" "Z" "PoisonPiles",
  .methodLinkNest "PoisonPiles" 24 ⟨"PoisonPiles$History", "<init>", "()V"⟩ "PoisonPiles",
  .methodLinkNest "PoisonPiles$History" 17 ⟨"PoisonPiles$Game", "<init>", "()V"⟩ "PoisonPiles",
  .fieldLinkNest "PoisonPiles" 162 "PoisonPiles$History" "size" "I" "PoisonPiles",
  .methodLinkNest "PoisonPiles" 37 ⟨"PoisonPiles$Solver", "<init>", "()V"⟩ "PoisonPiles",
  .methodLinkNest "PoisonPiles" 44 ⟨"PoisonPiles$Sizes", "<init>", "()V"⟩ "PoisonPiles",
  .methodLinkNest "PoisonPiles" 51 ⟨"PoisonPiles$Pad", "<init>", "()V"⟩ "PoisonPiles",
  .fieldLinkNest "PoisonPiles" 159 "PoisonPiles$Pad" "length" "I" "PoisonPiles",
  .methodLinkNest "PoisonPiles" 56 ⟨"PoisonPiles$Slot", "<init>", "()V"⟩ "PoisonPiles",
  .methodLinkNest "PoisonPiles$Slot" 9 ⟨"PoisonPiles$Game", "<init>", "()V"⟩ "PoisonPiles",
  .fieldLinkNest "PoisonPiles" 212 "PoisonPiles$Slot" "game" "LPoisonPiles$Game;" "PoisonPiles",
  .fieldLinkNest "PoisonPiles" 215 "PoisonPiles$Slot" "filled" "Z" "PoisonPiles",
  .methodLinkNest "PoisonPiles" 79 ⟨"PoisonPiles$Game", "tokenSum", "()I"⟩ "PoisonPiles",
  .methodLinkNest "PoisonPiles" 143 ⟨"PoisonPiles$Game", "isOver", "()Z"⟩ "PoisonPiles",
  .methodLinkNest "PoisonPiles$Game" 67 ⟨"PoisonPiles", "takesOutOf", "(III)I"⟩ "PoisonPiles",
  .methodLinkNest "PoisonPiles" 147 ⟨"PoisonPiles$Game", "winner", "()I"⟩ "PoisonPiles",
  .methodLinkNest "PoisonPiles" 209 ⟨"PoisonPiles$History", "takeBack", "(LPoisonPiles$Game;)Z"⟩ "PoisonPiles",
  .methodLinkNest "PoisonPiles$History" 25 ⟨"PoisonPiles$Game", "copyFrom", "(LPoisonPiles$Game;)V"⟩ "PoisonPiles",
  .methodLinkNest "PoisonPiles$Game" 35 ⟨"PoisonPiles$Pile", "copyFrom", "(LPoisonPiles$Pile;)V"⟩ "PoisonPiles",
  .methodLinkNest "PoisonPiles$Game" 42 ⟨"PoisonPiles$Player", "copyFrom", "(LPoisonPiles$Player;)V"⟩ "PoisonPiles",
  .methodLinkNest "PoisonPiles" 57 ⟨"PoisonPiles$Game", "copyFrom", "(LPoisonPiles$Game;)V"⟩ "PoisonPiles",
  .methodLinkNest "PoisonPiles" 218 ⟨"PoisonPiles$History", "add", "(LPoisonPiles$Game;)V"⟩ "PoisonPiles",
  .methodLinkNest "PoisonPiles" 92 ⟨"PoisonPiles$Game", "hasPile", "(I)Z"⟩ "PoisonPiles",
  .methodLinkNest "PoisonPiles" 119 ⟨"PoisonPiles$Sizes", "nimber", "(II)I"⟩ "PoisonPiles",
  .methodLinkNest "PoisonPiles$Sizes" 34 ⟨"PoisonPiles", "isIn", "(II)Z"⟩ "PoisonPiles",
  .methodLinkNest "PoisonPiles" 122 ⟨"PoisonPiles$Game", "player", "(I)LPoisonPiles$Player;"⟩ "PoisonPiles",
  .methodLinkNest "PoisonPiles" 134 ⟨"PoisonPiles$Game", "purse", "(I)I"⟩ "PoisonPiles",
  .methodLinkNest "PoisonPiles" 165 ⟨"PoisonPiles$Game", "moveSet", "()I"⟩ "PoisonPiles",
  .methodLinkNest "PoisonPiles" 221 ⟨"PoisonPiles$Pile", "fill", "(IIZ)V"⟩ "PoisonPiles",
  .methodLinkNest "PoisonPiles" 76 ⟨"PoisonPiles$Game", "restart", "()V"⟩ "PoisonPiles",
  .methodLinkNest "PoisonPiles" 235 ⟨"PoisonPiles$Game", "allows", "(I)Z"⟩ "PoisonPiles",
  .methodLinkNest "PoisonPiles$Game" 86 ⟨"PoisonPiles", "isIn", "(II)Z"⟩ "PoisonPiles",
  .methodLinkNest "PoisonPiles" 241 ⟨"PoisonPiles$Game", "usePass", "()I"⟩ "PoisonPiles",
  .methodLinkNest "PoisonPiles" 179 ⟨"PoisonPiles$Solver", "bestMove", "(LPoisonPiles$Game;)I"⟩ "PoisonPiles",
  .methodLinkNest "PoisonPiles$Solver" 119 ⟨"PoisonPiles", "takeMove", "(II)I"⟩ "PoisonPiles",
  .methodLinkNest "PoisonPiles$Solver" 84 ⟨"PoisonPiles$Game", "player", "(I)LPoisonPiles$Player;"⟩ "PoisonPiles",
  .methodLinkNest "PoisonPiles$Solver" 123 ⟨"PoisonPiles", "takesOutOf", "(III)I"⟩ "PoisonPiles",
  .methodLinkNest "PoisonPiles$Solver" 47 ⟨"PoisonPiles", "isIn", "(II)Z"⟩ "PoisonPiles",
  .methodLinkNest "PoisonPiles" 242 ⟨"PoisonPiles$Game", "make", "(I)V"⟩ "PoisonPiles",
  .methodLinkNest "PoisonPiles" 238 ⟨"PoisonPiles$Game", "takeFrom", "(II)I"⟩ "PoisonPiles",
  .methodLinkNest "PoisonPiles" 176 ⟨"PoisonPiles$Solver", "difference", "(LPoisonPiles$Game;)I"⟩ "PoisonPiles",
  .methodLinkNest "PoisonPiles" 168 ⟨"PoisonPiles$Solver", "isWon", "(LPoisonPiles$Game;)Z"⟩ "PoisonPiles",
  .methodLinkNest "PoisonPiles" 172 ⟨"PoisonPiles$Solver", "winningMoves", "(LPoisonPiles$Game;)I"⟩ "PoisonPiles"]
theorem nxW_nest : ∀ w ∈ nxW, isNest w = true := by decide +kernel
theorem nxW_on : ∀ w ∈ nxW, w.onTables = true := by decide +kernel
theorem nxW_in : ∀ w ∈ nxW, w ∈ lw_tbl := by decide +kernel
def NX (U : State) : Prop := ∀ w ∈ nxW, va_Nw w U
theorem NX.warm {s U : State} (hW : s.WarmedH U.vm) (h : NX s) : NX U := by
  intro w hw
  have h1 := nxW_nest w hw
  have h2 := h w hw
  cases w <;> first | exact va_Nw.warmF hW h2 | exact va_Nw.warmM hW h2 | (simp [isNest] at h1)
theorem NX.same {u U : State} (hvm : u.vm = U.vm) (h : NX u) : NX U := fun w hw => va_Nw.same (nxW_on w hw) hvm (h w hw)
/-- the state of the class and the reference, of the machine -/
def St (D : va_G) (L : Nat → Nat) (ac : Nat → ClassId) (X : XM) (U : State) : Prop := va_P D vwCl (fw L ac X) U.heap ∧ (∀ k, k < 6 → xun (X 11 (k + 1)) < 11) ∧ va_K D vwCl (tys ac) U ∧ NX U
def fr (L : Nat → Nat) : Nat → Prop := fun q => ∃ i, i < 103 ∧ q = L i
def LL (L : Nat → Nat) : Prop := ∀ i j, i < 103 → j < 103 → L i = L j → i = j
def Oh (D : va_G) (L : Nat → Nat) (ac : Nat → ClassId) (X : XM) (A : Nat → Prop) (H0 H : Heap) (locs : List Loc) : Prop := va_P D vwCl (fw L ac X) H ∧ (∀ k, k < 6 → xun (X 11 (k + 1)) < 11) ∧ va_S A H0 H locs
theorem fr_in {L : Nat → Nat} {i : Nat} (h : i < 103) : fr L (L i) := ⟨i, h, rfl⟩
theorem fr_D {L : Nat → Nat} {ac : Nat → ClassId} {X : XM} {A : Nat → Prop} (hL : LL L) (hA : ∀ q, fr L q → A q) : va_D A (fw L ac X) := by
  have key : ∀ (k : Nat) (q : Nat × va_E), (fw L ac X)[k]? = some q → k < 103 ∧ q.1 = L k := by
    intro k q h
    have hk : k < 103 := by
      have := (List.getElem?_eq_some_iff.mp h).1
      simpa [fw] using this
    rw [fw_at hk rfl] at h
    cases h
    exact ⟨hk, rfl⟩
  refine ⟨fun i j p q hi hj hpq => ?_, fun k q h => ?_⟩
  · obtain ⟨h1, h2⟩ := key i p hi
    obtain ⟨h3, h4⟩ := key j q hj
    exact hL i j h1 h3 (by rw [← h2, ← h4, hpq])
  · obtain ⟨h1, h2⟩ := key k q h
    rw [h2]
    exact hA _ (fr_in h1)
theorem St.calling {D : va_G} {L : Nat → Nat} {ac : Nat → ClassId} {X : XM} {U : State} (g : JFrame) (mk : MethodId) (a : Array Value) (h : St D L ac X U) : St D L ac X (U.calling g mk a) := ⟨h.1, h.2.1, va_K.moved (u := U) (U := U.calling g mk a) (Vm.Alike.refl U.vm) h.2.2.1, NX.same (u := U) rfl h.2.2.2⟩
theorem St.of {D : va_G} {L : Nat → Nat} {ac : Nat → ClassId} {X : XM} {A : Nat → Prop} {H0 H : Heap} {locs : List Loc} {s U : State} (hO : Oh D L ac X A H0 H locs) (hK : va_K D vwCl (tys ac) s) (hN : NX s) (hU : U.heap = H) (hW : s.WarmedH U.vm) : St D L ac X U := ⟨by rw [hU]; exact hO.1, hO.2.1, va_K.moved hW.alike hK, NX.warm hW hN⟩
theorem bo_n {v : Int32} (h : v = 0 ∨ v = 1) : narrow .boolean (.int v) = .int v := by rcases h with rfl | rfl <;> decide +kernel
theorem bo_f {v : Int32} (h : v = 0 ∨ v = 1) : fits .boolean (.int v) = true := by rcases h with rfl | rfl <;> decide +kernel
section KR
variable {p : Program} {l : Launch} {e : Env} {R : Room} {s : State} {m : MethodId} {args : Array Value} {below : List Frame} {meth : Method} {c : Code} {H : Heap} {locs : List Loc} {cells slots : Nat} {Q : State → Prop}
variable {cc : ByteArray} {pc : Nat} {ls : Array Slot} {rest : List Value} {D : va_G} {L : Nat → Nat} {ac : Nat → ClassId} {X : XM} {A : Nat → Prop}
theorem k_get (hx : p.tables.exec = Jvm.exec) (hb : c.code = cc) {own C : String} {T : u_T} {N ci index k j : Nat} {Ts : List Cond} {fs : List Value} {v : Value} (hts : ∀ w ∈ Ts, w.before args s = true) (hin : ∀ w ∈ u_ws C T N, w ∈ Ts) (hown : s.vm.findClass own = some m.cls) (hK : va_K D vwCl (tys ac) s) (hO : Oh D L ac X A s.heap H locs) (hj : j < 103) (hct : ct L ac X j = .inr (ci, fs)) (hc : vwCl[ci]? = some (C, T, N)) (hk : k < N) (hlink : (Cond.fieldLink own index (T k).1 (T k).2.1 (T k).2.2.1) ∈ Ts) (hv : fs[k]? = some v) (hdg : decode cc pc = .ok (.getfield index, 3))
    (kk : W p l e R s m args below meth c H locs cells slots Q (F0 m (pc + 3) ls (v :: rest))) : W p l e R s m args below meth c H locs cells slots Q (F0 m pc ls (.ref (L j) :: rest)) :=
  va_get hx hb hts hin hown hK hO.1 j (fw_at hj hct) hc k hk (hts _ hlink) (fun _ h => h) hv hdg kk
theorem k_getN (hx : p.tables.exec = Jvm.exec) (hb : c.code = cc) {own C host : String} {T : u_T} {N ci index k j : Nat} {Ts : List Cond} {fs : List Value} {v : Value} (hts : ∀ w ∈ Ts, w.before args s = true) (hin : ∀ w ∈ u_ws C T N, w ∈ Ts) (hown : s.vm.findClass own = some m.cls) (hK : va_K D vwCl (tys ac) s) (hN : NX s) (hO : Oh D L ac X A s.heap H locs) (hj : j < 103) (hct : ct L ac X j = .inr (ci, fs)) (hc : vwCl[ci]? = some (C, T, N)) (hk : k < N) (hlink : (Cond.fieldLinkNest own index (T k).1 (T k).2.1 (T k).2.2.1 host) ∈ nxW) (hv : fs[k]? = some v) (hdg : decode cc pc = .ok (.getfield index, 3))
    (kk : W p l e R s m args below meth c H locs cells slots Q (F0 m (pc + 3) ls (v :: rest))) : W p l e R s m args below meth c H locs cells slots Q (F0 m pc ls (.ref (L j) :: rest)) :=
  va_getN hx hb hts hin hown hK hO.1 j (fw_at hj hct) hc k hk (va_Nw.use rfl (hN _ hlink)) (fun _ h => h) hv hdg kk
theorem st_up {r k' : Nat} {v : Int32} (hr : r ≠ 11 ∨ k' = 0) (h : ∀ k, k < 6 → xun (X 11 (k + 1)) < 11) : ∀ k, k < 6 → xun (xup X r k' v 11 (k + 1)) < 11 := by
  intro k hk
  unfold xup
  rw [if_neg (by omega)]
  exact h k hk
theorem k_put (hx : p.tables.exec = Jvm.exec) (hb : c.code = cc) {own C : String} {T : u_T} {N ci index k j r k' : Nat} {Ts : List Cond} {fs : XM → List Value} {v : Int32} {ty : FieldType} (ty0 : Nat → FieldType) (hty : ∀ k, k < N → parseFieldDescriptor (T k).2.2.1 = some (ty0 k)) (hnm : ∀ a, a < N → ∀ b, b < N → a ≠ b → (T a).2.1 ≠ (T b).2.1) (hts : ∀ w ∈ Ts, w.before args s = true) (hin : ∀ w ∈ u_ws C T N, w ∈ Ts) (hown : s.vm.findClass own = some m.cls) (hK : va_K D vwCl (tys ac) s) (hL : LL L) (hA : ∀ q, fr L q → A q) (hO : Oh D L ac X A s.heap H locs) (hj : j < 103) (how : owner r k' = j) (hr : r ≠ 11 ∨ k' = 0) (hct : ∀ Y, ct L ac Y j = .inr (ci, fs Y)) (hfs : fs (xup X r k' v) = (fs X).set k (.int v)) (hc : vwCl[ci]? = some (C, T, N)) (hk : k < N) (hlink : (Cond.fieldLink own index (T k).1 (T k).2.1 (T k).2.2.1) ∈ Ts) (hfin : (T k).2.2.2 = false) (hd : parseFieldDescriptor (T k).2.2.1 = some ty) (hn : narrow ty (.int v) = .int v) (hfit : fits ty (.int v) = true) (hl : k < (fs X).length) (hdg : decode cc pc = .ok (.putfield index, 3))
    (kk : ∀ (H1 : Heap) (locs1 : List Loc), Oh D L ac (xup X r k' v) A s.heap H1 locs1 → W p l e R s m args below meth c H1 locs1 cells slots Q (F0 m (pc + 3) ls rest)) : W p l e R s m args below meth c H locs cells slots Q (F0 m pc ls (.int v :: .ref (L j) :: rest)) := by
  refine va_put hx hb hts hin ty0 hty hnm hown hK hO.1 (fr_D hL hA) hO.2.2 j (fw_at hj (hct X)) hc k hk (hts _ hlink) (fun _ h => h) hfin hd hn hfit hl hdg (fun H1 locs1 hP hD hS => ?_)
  rw [fw_set how (by rw [hct, hfs])] at hP
  exact kk H1 locs1 ⟨hP, st_up hr hO.2.1, hS⟩
theorem k_putN (hx : p.tables.exec = Jvm.exec) (hb : c.code = cc) {own C host : String} {T : u_T} {N ci index k j r k' : Nat} {Ts : List Cond} {fs : XM → List Value} {v : Int32} {ty : FieldType} (ty0 : Nat → FieldType) (hty : ∀ k, k < N → parseFieldDescriptor (T k).2.2.1 = some (ty0 k)) (hnm : ∀ a, a < N → ∀ b, b < N → a ≠ b → (T a).2.1 ≠ (T b).2.1) (hts : ∀ w ∈ Ts, w.before args s = true) (hin : ∀ w ∈ u_ws C T N, w ∈ Ts) (hown : s.vm.findClass own = some m.cls) (hK : va_K D vwCl (tys ac) s) (hN : NX s) (hL : LL L) (hA : ∀ q, fr L q → A q) (hO : Oh D L ac X A s.heap H locs) (hj : j < 103) (how : owner r k' = j) (hr : r ≠ 11 ∨ k' = 0) (hct : ∀ Y, ct L ac Y j = .inr (ci, fs Y)) (hfs : fs (xup X r k' v) = (fs X).set k (.int v)) (hc : vwCl[ci]? = some (C, T, N)) (hk : k < N) (hlink : (Cond.fieldLinkNest own index (T k).1 (T k).2.1 (T k).2.2.1 host) ∈ nxW) (hfin : (T k).2.2.2 = false) (hd : parseFieldDescriptor (T k).2.2.1 = some ty) (hn : narrow ty (.int v) = .int v) (hfit : fits ty (.int v) = true) (hl : k < (fs X).length) (hdg : decode cc pc = .ok (.putfield index, 3))
    (kk : ∀ (H1 : Heap) (locs1 : List Loc), Oh D L ac (xup X r k' v) A s.heap H1 locs1 → W p l e R s m args below meth c H1 locs1 cells slots Q (F0 m (pc + 3) ls rest)) : W p l e R s m args below meth c H locs cells slots Q (F0 m pc ls (.int v :: .ref (L j) :: rest)) := by
  refine va_putN hx hb hts hin ty0 hty hnm hown hK hO.1 (fr_D hL hA) hO.2.2 j (fw_at hj (hct X)) hc k hk (va_Nw.use rfl (hN _ hlink)) (fun _ h => h) hfin hd hn hfit hl hdg (fun H1 locs1 hP hD hS => ?_)
  rw [fw_set how (by rw [hct, hfs])] at hP
  exact kk H1 locs1 ⟨hP, st_up hr hO.2.1, hS⟩
theorem k_iald (hx : p.tables.exec = Jvm.exec) (hb : c.code = cc) {j r n : Nat} {i : Int32} (hK : va_K D vwCl (tys ac) s) (hO : Oh D L ac X A s.heap H locs) (hj : j < 103) (hct : ∀ Y, ct L ac Y j = .inl (ac 0, n, .inl (Y r))) (hin : vp_in i n) (hdg : decode cc pc = .ok (.iaload, 1))
    (kk : W p l e R s m args below meth c H locs cells slots Q (F0 m (pc + 1) ls (.int (X r i.toNatClampNeg) :: rest))) : W p l e R s m args below meth c H locs cells slots Q (F0 m pc ls (.int i :: .ref (L j) :: rest)) :=
  va_iald hx hb hK hO.1 j 0 (fw_at hj (hct X)) rfl hin hdg kk
theorem k_cald (hx : p.tables.exec = Jvm.exec) (hb : c.code = cc) {j r n : Nat} {i : Int32} (hK : va_K D vwCl (tys ac) s) (hO : Oh D L ac X A s.heap H locs) (hj : j < 103) (hct : ∀ Y, ct L ac Y j = .inl (ac 1, n, .inl (Y r))) (hin : vp_in i n) (hdg : decode cc pc = .ok (.caload, 1))
    (kk : W p l e R s m args below meth c H locs cells slots Q (F0 m (pc + 1) ls (.int (X r i.toNatClampNeg) :: rest))) : W p l e R s m args below meth c H locs cells slots Q (F0 m pc ls (.int i :: .ref (L j) :: rest)) :=
  va_cald hx hb hK hO.1 j 1 (fw_at hj (hct X)) rfl hin hdg kk
theorem k_alen (hx : p.tables.exec = Jvm.exec) (hb : c.code = cc) {j t : Nat} {x : vp_A} {ty : FieldType} {v : Int32} (hK : va_K D vwCl (tys ac) s) (hO : Oh D L ac X A s.heap H locs) (hj : j < 103) (hct : ct L ac X j = .inl (ac t, x)) (ht : (tys ac)[t]? = some (ac t, ty)) (hv : Int32.ofNat x.1 = v) (hdg : decode cc pc = .ok (.arraylength, 1))
    (kk : W p l e R s m args below meth c H locs cells slots Q (F0 m (pc + 1) ls (.int v :: rest))) : W p l e R s m args below meth c H locs cells slots Q (F0 m pc ls (.ref (L j) :: rest)) :=
  va_alen hx hb hK hO.1 j t (fw_at hj hct) ht hv hdg kk
theorem k_aald (hx : p.tables.exec = Jvm.exec) (hb : c.code = cc) {j t n : Nat} {C : String} {i : Int32} {q : Nat → Nat} (hK : va_K D vwCl (tys ac) s) (hO : Oh D L ac X A s.heap H locs) (hj : j < 103) (hct : ct L ac X j = .inl (ac t, n, .inr (.inr (.inr (.inr (fun b => some (L (q b)))))))) (ht : (tys ac)[t]? = some (ac t, .object C)) (hin : vp_in i n) (hdg : decode cc pc = .ok (.aaload, 1))
    (kk : W p l e R s m args below meth c H locs cells slots Q (F0 m (pc + 1) ls (.ref (L (q i.toNatClampNeg)) :: rest))) : W p l e R s m args below meth c H locs cells slots Q (F0 m pc ls (.int i :: .ref (L j) :: rest)) :=
  va_aldq hx hb hK hO.1 j t (fw_at hj hct) ht hin hdg kk
theorem k_iast (hx : p.tables.exec = Jvm.exec) (hb : c.code = cc) {j r n : Nat} {i x : Int32} (hK : va_K D vwCl (tys ac) s) (hL : LL L) (hA : ∀ q, fr L q → A q) (hO : Oh D L ac X A s.heap H locs) (hj : j < 103) (hr : r ≠ 11) (how : owner r i.toNatClampNeg = j) (hct : ∀ Y, ct L ac Y j = .inl (ac 0, n, .inl (Y r))) (hin : vp_in i n) (hdg : decode cc pc = .ok (.iastore, 1))
    (kk : ∀ (H1 : Heap) (locs1 : List Loc), Oh D L ac (xup X r i.toNatClampNeg x) A s.heap H1 locs1 → W p l e R s m args below meth c H1 locs1 cells slots Q (F0 m (pc + 1) ls rest)) : W p l e R s m args below meth c H locs cells slots Q (F0 m pc ls (.int x :: .int i :: .ref (L j) :: rest)) := by
  refine va_iast hx hb hK hO.1 (fr_D hL hA) hO.2.2 j 0 (fw_at hj (hct X)) rfl hin hdg (fun H1 locs1 hP hD hS => ?_)
  rw [fw_set (v := x) how (by rw [hct, xup_row])] at hP
  exact kk H1 locs1 ⟨hP, st_up (Or.inl hr) hO.2.1, hS⟩
theorem k_cast (hx : p.tables.exec = Jvm.exec) (hb : c.code = cc) {j r n : Nat} {i x : Int32} (hK : va_K D vwCl (tys ac) s) (hL : LL L) (hA : ∀ q, fr L q → A q) (hO : Oh D L ac X A s.heap H locs) (hj : j < 103) (hr : r ≠ 11) (how : owner r i.toNatClampNeg = j) (hct : ∀ Y, ct L ac Y j = .inl (ac 1, n, .inl (Y r))) (hin : vp_in i n) (hdg : decode cc pc = .ok (.castore, 1))
    (kk : ∀ (H1 : Heap) (locs1 : List Loc), Oh D L ac (xup X r i.toNatClampNeg (vp_nar .char x)) A s.heap H1 locs1 → W p l e R s m args below meth c H1 locs1 cells slots Q (F0 m (pc + 1) ls rest)) : W p l e R s m args below meth c H locs cells slots Q (F0 m pc ls (.int x :: .int i :: .ref (L j) :: rest)) := by
  refine va_cast hx hb hK hO.1 (fr_D hL hA) hO.2.2 j 1 (fw_at hj (hct X)) rfl hin hdg (fun H1 locs1 hP hD hS => ?_)
  rw [fw_set (v := vp_nar .char x) how (by rw [hct, xup_row])] at hP
  exact kk H1 locs1 ⟨hP, st_up (Or.inl hr) hO.2.1, hS⟩
/-- a game's place in the history's row -/
theorem k_aast (hx : p.tables.exec = Jvm.exec) (hb : c.code = cc) {g : Nat} {i : Int32} (hK : va_K D vwCl (tys ac) s) (hL : LL L) (hA : ∀ q, fr L q → A q) (hO : Oh D L ac X A s.heap H locs) (hg : g < 11) (hin : vp_in i 6) (hdg : decode cc pc = .ok (.aastore, 1))
    (kk : ∀ (H1 : Heap) (locs1 : List Loc), Oh D L ac (xup X 11 (i.toNatClampNeg + 1) (nI g)) A s.heap H1 locs1 → W p l e R s m args below meth c H1 locs1 cells slots Q (F0 m (pc + 1) ls rest)) : W p l e R s m args below meth c H locs cells slots Q (F0 m pc ls (.ref (L (aG g)) :: .int i :: .ref (L 2) :: rest)) := by
  have hun : xun (nI g) = g := pk_tn (n := g) (by omega)
  have hE : ct L ac (xup X 11 (i.toNatClampNeg + 1) (nI g)) 2 = .inl (ac 4, 6, .inr (.inr (.inr (.inr (va_up (fun j => some (L (aG (xun (X 11 (j + 1)))))) i.toNatClampNeg (some (L (aG g)))))))) := by
    simp only [ct]
    congr 7
    funext b
    unfold va_up xup
    by_cases hb2 : b = i.toNatClampNeg
    · subst hb2
      simp [hun]
    · simp [hb2]
  refine va_astq hx hb hK hO.1 (fr_D hL hA) hO.2.2 2 4 (aG g) 0 (r := (RX0, TX0, 10)) (fw_at (by decide) rfl) rfl (fw_at (aG_lt hg) (ct_G g)) rfl hin hdg (fun H1 locs1 hP hD hS => ?_)
  rw [fw_set (j := 2) rfl hE] at hP
  refine kk H1 locs1 ⟨hP, fun k hk => ?_, hS⟩
  unfold xup
  by_cases hk2 : k = i.toNatClampNeg
  · subst hk2
    simp [hun, hg]
  · simp only [Nat.add_right_cancel_iff, hk2, and_false, if_false]
    exact hO.2.1 k hk
end KR
