/-! THE STATE between two operations: the game f, the history's n states C, the slot's game g -/
section ST8
def tle (f : Nat → Int32) : Prop := ∀ p, p < 4 → xun (f (11 + 4 * p)) ≤ xun (f (14 + 4 * p))
def gk (f : Nat → Int32) : Prop := gok f ∧ tle f
def PB (X : XM) (f : Nat → Int32) (n : Nat) (C : Nat → Nat → Int32) : Prop :=
  (X 0 = f ∧ gk f) ∧ (HC X n C ∧ ∀ j, j < n → gk (C j)) ∧ (z27 (X 1) ∧ X 12 1 = 0 ∧ z27 (X 9)) ∧ SI X ∧ SIn X
def PS (X : XM) (f : Nat → Int32) (n : Nat) (C : Nat → Nat → Int32) (g : Nat → Int32) : Prop := PB X f n C ∧ X 12 0 = 1 ∧ X 9 = g ∧ gk g
theorem SI_cong {X Y : XM} (h : SI X) (e1 : Y 18 = X 18) (e2 : Y 19 = X 19) : SI Y := by
  unfold SI SZ
  rw [e1, e2]
  exact h
theorem PB.x0 {X : XM} {f : Nat → Int32} {n : Nat} {C : Nat → Nat → Int32} (P : PB X f n C) : X 0 = f := P.1.1
theorem PB.g0 {X : XM} {f : Nat → Int32} {n : Nat} {C : Nat → Nat → Int32} (P : PB X f n C) : gk f := P.1.2
theorem PB.hc {X : XM} {f : Nat → Int32} {n : Nat} {C : Nat → Nat → Int32} (P : PB X f n C) : HC X n C := P.2.1.1
theorem PB.gc {X : XM} {f : Nat → Int32} {n : Nat} {C : Nat → Nat → Int32} (P : PB X f n C) : ∀ j, j < n → gk (C j) := P.2.1.2
theorem PB.z1 {X : XM} {f : Nat → Int32} {n : Nat} {C : Nat → Nat → Int32} (P : PB X f n C) : z27 (X 1) := P.2.2.1.1
theorem PB.s1 {X : XM} {f : Nat → Int32} {n : Nat} {C : Nat → Nat → Int32} (P : PB X f n C) : X 12 1 = 0 := P.2.2.1.2.1
theorem PB.z9 {X : XM} {f : Nat → Int32} {n : Nat} {C : Nat → Nat → Int32} (P : PB X f n C) : z27 (X 9) := P.2.2.1.2.2
theorem PB.si {X : XM} {f : Nat → Int32} {n : Nat} {C : Nat → Nat → Int32} (P : PB X f n C) : SI X := P.2.2.2.1
theorem PB.sn {X : XM} {f : Nat → Int32} {n : Nat} {C : Nat → Nat → Int32} (P : PB X f n C) : SIn X := P.2.2.2.2
theorem PB.cong {X Y : XM} {f : Nat → Int32} {n : Nat} {C : Nat → Nat → Int32} (P : PB X f n C) (e : ∀ r, r ≤ 12 → Y r = X r) (T : SI Y) (S : SIn Y) : PB Y f n C := by
  refine ⟨⟨by rw [e 0 (by omega)]; exact P.x0, P.g0⟩, ⟨HC_cong P.hc (fun r hr => e r (by omega)), P.gc⟩, ⟨?_, ?_, ?_⟩, T, S⟩
  · rw [e 1 (by omega)]; exact P.z1
  · rw [e 12 (by omega)]; exact P.s1
  · rw [e 9 (by omega)]; exact P.z9
theorem PS.cong {X Y : XM} {f : Nat → Int32} {n : Nat} {C : Nat → Nat → Int32} {g : Nat → Int32} (P : PS X f n C g) (e : ∀ r, r ≤ 12 → Y r = X r) (T : SI Y) (S : SIn Y) : PS Y f n C g :=
  ⟨P.1.cong e T S, by rw [e 12 (by omega)]; exact P.2.1, by rw [e 9 (by omega)]; exact P.2.2.1, P.2.2.2⟩
def nx (r : Int32) (n : Nat) : Nat := if r < 0 then n else pushN n
def Cx (r : Int32) (n : Nat) (C : Nat → Nat → Int32) (f : Nat → Int32) : Nat → Nat → Int32 := if r < 0 then C else pushC n C f
theorem gk_push {f : Nat → Int32} {n : Nat} {C : Nat → Nat → Int32} (hf : gk f) (h : ∀ j, j < n → gk (C j)) (hn : n ≤ 6) : ∀ j, j < pushN n → gk (pushC n C f j) := by
  intro j hj
  unfold pushN at hj
  unfold pushC
  by_cases c : n < 6
  · rw [if_pos c] at hj ⊢
    by_cases d : j = n
    · rw [if_pos d]; exact hf
    · rw [if_neg d]; exact h j (by omega)
  · rw [if_neg c] at hj ⊢
    by_cases d : j = 5
    · rw [if_pos d]; exact hf
    · rw [if_neg d]; exact h (j + 1) (by omega)
/-- the change is recorded -/
theorem recd {X M : XM} {f f' : Nat → Int32} {n : Nat} {C : Nat → Nat → Int32} {g : Nat → Int32} {r : Int32} (P : PS X f n C g) (h0 : M 0 = f') (g' : gk f') (hr : r < 0 → f' = f) (m1 : M 1 = f) (mh : ∀ q, q = 11 ∨ (3 ≤ q ∧ q ≤ 8) ∨ q = 9 ∨ q = 12 → M q = X q) (T : SI M) (S : SIn M) : ∃ Y, fX8_recorded r M = some (r, Y) ∧ PS Y f' (nx r n) (Cx r n C f) g := by
  have hM : HC M n C := HC_cong P.1.hc (fun q hq => mh q (by omega))
  have s0 : M 12 = X 12 := mh 12 (by omega)
  have s9 : M 9 = X 9 := mh 9 (by omega)
  by_cases c : r < 0
  · refine ⟨M, ?_, ⟨⟨h0, g'⟩, ?_, ⟨?_, ?_, ?_⟩, T, S⟩, ?_, ?_, P.2.2.2⟩
    · unfold fX8_recorded
      rw [if_pos c]
    · unfold nx Cx
      rw [if_pos c, if_pos c]
      exact ⟨hM, P.1.gc⟩
    · rw [m1]; exact P.1.g0.1.z
    · rw [s0]; exact P.1.s1
    · rw [s9]; exact P.1.z9
    · rw [s0]; exact P.2.1
    · rw [s9]; exact P.2.2.1
  · obtain ⟨Y, hY, hc, hrow⟩ := f_add hM (by rw [m1]; exact P.1.g0.1.z) (by rw [m1]; exact P.1.g0.1.b)
    rw [m1] at hc
    refine ⟨Y, ?_, ⟨⟨?_, g'⟩, ?_, ⟨?_, ?_, ?_⟩, ?_, ?_⟩, ?_, ?_, P.2.2.2⟩
    · unfold fX8_recorded
      rw [if_neg c, hY]
      rfl
    · rw [hrow 0 (by decide) (by decide)]; exact h0
    · unfold nx Cx
      rw [if_neg c, if_neg c]
      exact ⟨hc, gk_push P.1.g0 P.1.gc P.1.hc.1⟩
    · rw [hrow 1 (by decide) (by decide), m1]; exact P.1.g0.1.z
    · rw [hrow 12 (by decide) (by decide), s0]; exact P.1.s1
    · rw [hrow 9 (by decide) (by decide), s9]; exact P.1.z9
    · exact SI_cong T (hrow 18 (by decide) (by decide)) (hrow 19 (by decide) (by decide))
    · exact SIn_cong S (fun q a b => hrow q (by omega) (by omega))
    · rw [hrow 12 (by decide) (by decide), s0]; exact P.2.1
    · rw [hrow 9 (by decide) (by decide), s9]; exact P.2.2.1
/-- an operation at the game f, with the slot's game g: it answers r, and the game behind it is f' -/
def OpOK (k : XM → Option (Int32 × XM)) (f g : Nat → Int32) (r : Int32) (f' : Nat → Int32) : Prop :=
  gk f' ∧ (r < 0 → f' = f) ∧ ∀ X n C, PS X f n C g → ∃ Y, k X = some (r, Y) ∧ PS Y f' (nx r n) (Cx r n C f) g
def chW (k : XM → Option (Int32 × XM)) (X : XM) : Option (Int32 × XM) := zv (fX0_copyFrom 1 0 X) (fun X_1 => zi (k X_1) (fun r_4 X_3 => zi (fX8_recorded r_4 X_3) (fun r_7 X_6 => some (r_7, X_6))))
theorem op_of {k : XM → Option (Int32 × XM)} {f g f' : Nat → Int32} {r : Int32} (g' : gk f') (hr : r < 0 → f' = f) (hk : ∀ Z, Z 0 = f → SIn Z → ∃ Z', k Z = some (r, Z') ∧ Z' 0 = f' ∧ SIn Z' ∧ ∀ q, q ≠ 0 → q ≠ 13 → q ≠ 14 → q ≠ 15 → q ≠ 17 → Z' q = Z q) : OpOK (chW k) f g r f' := by
  refine ⟨g', hr, fun X n C P => ?_⟩
  have x0 := P.1.x0
  have hcp : fX0_copyFrom 1 0 X = some (srw X 1 f) := by
    rw [f_copyFrom (by decide) P.1.z1 (by rw [x0]; exact P.1.g0.1.z) (by rw [x0]; exact P.1.g0.1.b), x0]
  obtain ⟨M, m1, m2, m3, m4⟩ := hk (srw X 1 f) (by rw [srw_n (by decide)]; exact x0) (SIn_cong P.1.sn (fun q a b => srw_n (by omega)))
  obtain ⟨Y, y1, y2⟩ := recd (r := r) P m2 g' hr (by rw [m4 1 (by decide) (by decide) (by decide) (by decide) (by decide), srw_s]) (fun q hq => by rw [m4 q (by omega) (by omega) (by omega) (by omega) (by omega), srw_n (by omega)]) (SI_cong P.1.si (by rw [m4 18 (by decide) (by decide) (by decide) (by decide) (by decide), srw_n (by decide)]) (by rw [m4 19 (by decide) (by decide) (by decide) (by decide) (by decide), srw_n (by decide)])) m3
  refine ⟨Y, ?_, y2⟩
  unfold chW
  rw [hcp, zv_ok, m1, zi_ok, y1, zi_ok]
theorem op_yes {k : XM → Option (Int32 × XM)} {f g f' : Nat → Int32} {r : Int32} (g' : gk f') (hr : ¬ r < 0) (hk : ∀ Z, Z 0 = f → k Z = some (r, srw Z 0 f')) : OpOK (chW k) f g r f' :=
  op_of g' (fun q => absurd q hr) (fun Z hz hs => ⟨srw Z 0 f', hk Z hz, srw_s, SIn_cong hs (fun q a b => srw_n (by omega)), fun q a _ _ _ _ => srw_n a⟩)
theorem op_no {k : XM → Option (Int32 × XM)} {f g : Nat → Int32} {r : Int32} (hf : gk f) (hk : ∀ Z, Z 0 = f → k Z = some (r, Z)) : OpOK (chW k) f g r f :=
  op_of hf (fun _ => rfl) (fun Z hz hs => ⟨Z, hk Z hz, hz, hs, fun q _ _ _ _ _ => rfl⟩)
theorem tle_u {f : Nat → Int32} {k : Nat} {v : Int32} (h : tle f) (hk : k < 11) : tle (upd f k v) := by
  intro p hp
  unfold upd
  rw [if_neg (by omega), if_neg (by omega)]
  exact h p hp
theorem tle_dPile {f : Nat → Int32} {n : Nat} {a b c : Int32} (h : tle f) : tle (dPile f n a b c) := by
  intro p hp
  unfold dPile
  by_cases e : p = n
  · subst e
    rw [if_neg (by omega), if_pos rfl, if_neg (by omega), if_neg (by omega), if_neg (by omega), if_neg (by omega), if_pos rfl]
    exact Nat.le_refl _
  · rw [if_neg (by omega), if_neg (by omega), if_neg (by omega), if_neg (by omega), if_neg (by omega), if_neg (by omega), if_neg (by omega), if_neg (by omega), if_neg (by omega), if_neg (by omega)]
    exact h p hp
theorem tle_dBegin {f : Nat → Int32} : tle (dBegin f) := by
  intro p hp
  have e1 : dBegin f (11 + 4 * p) = f (14 + 4 * p) := by
    unfold dBegin
    rw [if_pos (by omega), show 11 + 4 * p + 3 = 14 + 4 * p by omega]
  have e2 : dBegin f (14 + 4 * p) = f (14 + 4 * p) := by
    unfold dBegin
    rw [if_neg (by omega), if_neg (by omega)]
  rw [e1, e2]
  exact Nat.le_refl _
theorem dTake_came {f : Nat → Int32} {m p t q : Nat} (hm : m ≤ 1) : dTake f m p t (14 + 4 * q) = f (14 + 4 * q) := by
  unfold dTake
  rw [if_neg (by omega), if_neg (by omega), if_neg (by omega), if_neg (by omega), if_neg (by omega), if_neg (by omega)]
theorem dTake_tok {f : Nat → Int32} {m p t q : Nat} (hm : m ≤ 1) : dTake f m p t (11 + 4 * q) = if q = p then f (11 + 4 * q) - nI t else f (11 + 4 * q) := by
  unfold dTake
  rw [if_neg (by omega), if_neg (by omega), if_neg (by omega), if_neg (by omega), if_neg (by omega)]
  by_cases e : q = p
  · rw [if_pos (by omega), if_pos e]
  · rw [if_neg (by omega), if_neg e]
theorem tle_dTake {f : Nat → Int32} {m p t : Nat} (h : tle f) (hm : m ≤ 1) (ht : t ≤ gT f p) : tle (dTake f m p t) := by
  intro q hq
  rw [dTake_came hm, dTake_tok hm]
  by_cases e : q = p
  · subst e
    rw [if_pos rfl]
    have h1 := h q hq
    have e1 : f (11 + 4 * q) = nI (gT f q) := (nI_xun _).symm
    have h2 : gT f q < 2 ^ 32 := (f (11 + 4 * q)).toBitVec.isLt
    rw [e1, nI_sub ht, xun_nI (by omega)]
    have h3 : gT f q = xun (f (11 + 4 * q)) := rfl
    omega
  · rw [if_neg e]
    exact h q hq
theorem tle_dPass {f : Nat → Int32} {m : Nat} (h : tle f) (hm : m ≤ 1) : tle (dPass f m) := by
  intro q hq
  unfold dPass
  rw [if_neg (by omega), if_neg (by omega), if_neg (by omega), if_neg (by omega), if_neg (by omega), if_neg (by omega), if_neg (by omega), if_neg (by omega), if_neg (by omega), if_neg (by omega)]
  exact h q hq
theorem gk_dMv {f : Nat → Int32} (h : gk f) {mv : Nat} (hm : mv < 21) (hb : (gmoves f).testBit mv = true) : gk (dMv f mv) := by
  refine ⟨gok_dMv h.1 hm hb, ?_⟩
  have h3 := h.1.2.2.2.2.1
  unfold dMv
  by_cases e : mv = 20
  · rw [if_pos e]; exact tle_dPass h.2 h3
  · rw [if_neg e]; exact tle_dTake h.2 h3 (mv_take h.1 (by omega) hb).2
theorem plG_gk {K : Nat} : ∀ (n i : Nat) (f : Nat → Int32), gk f → gk (plG K n i f).2 := by
  intro n
  induction n with
  | zero => intro i f h; exact h
  | succ n ih =>
    intro i f h
    unfold plG
    by_cases c : K ≤ i
    · rw [if_pos c]; exact h
    · rw [if_neg c]
      by_cases d : gmoves f = 0
      · rw [if_pos d]; exact h
      · rw [if_neg d]
        have hb := bm_ok h.1 d
        exact ih (i + 1) _ (gk_dMv h hb.2.1 hb.2.2.2)
theorem o_set {f : Nat → Int32} (g : Nat → Int32) (hf : gk f) (a1 a2 : Int32) : ∃ r f', OpOK (fX8_set a1 a2) f g r f' := by
  have no : (∀ Z : XM, fX8_changeSetting a1 a2 Z = some (-2, Z)) → ∃ r f', OpOK (fX8_set a1 a2) f g r f' := fun h => ⟨-2, f, op_no (k := fX8_changeSetting a1 a2) hf (fun Z _ => h Z)⟩
  by_cases c0 : a1 = 0
  · by_cases c1 : a2 < 1
    · exact no (fun Z => by unfold fX8_changeSetting; rw [if_pos c0, if_pos c1])
    · by_cases c2 : 31 < a2
      · exact no (fun Z => by unfold fX8_changeSetting; rw [if_pos c0, if_neg c1, if_pos c2])
      · obtain ⟨b1, b2⟩ := rng (x := a2) (lo := 1) (hi := 31) (by decide) (by decide) c1 c2
        refine ⟨f 0, upd f 0 a2, op_yes (k := fX8_changeSetting a1 a2) ⟨gok_u0 hf.1 b1 b2, tle_u hf.2 (by decide)⟩ (nn hf.1.2.1 (by decide)) (fun Z hz => ?_)⟩
        unfold fX8_changeSetting
        rw [if_pos c0, if_neg c1, if_neg c2, zl_ok, zl_ok, xup_eq, hz]
  · by_cases c9 : a1 = 1
    · by_cases c1 : a2 < 0
      · exact no (fun Z => by unfold fX8_changeSetting; rw [if_neg c0, if_pos c9, if_pos c1])
      · by_cases c2 : 99 < a2
        · exact no (fun Z => by unfold fX8_changeSetting; rw [if_neg c0, if_pos c9, if_neg c1, if_pos c2])
        · obtain ⟨b1, b2⟩ := rng (x := a2) (lo := 0) (hi := 99) (by decide) (by decide) c1 c2
          refine ⟨f 1, upd f 1 a2, op_yes (k := fX8_changeSetting a1 a2) ⟨gok_u1 hf.1 b2, tle_u hf.2 (by decide)⟩ (nn hf.1.2.2.1 (by decide)) (fun Z hz => ?_)⟩
          unfold fX8_changeSetting
          rw [if_neg c0, if_pos c9, if_neg c1, if_neg c2, zl_ok, zl_ok, xup_eq, hz]
    · exact no (fun Z => by unfold fX8_changeSetting; rw [if_neg c0, if_neg c9])
theorem o_pile {f : Nat → Int32} (g : Nat → Int32) (hf : gk f) (a1 a2 a3 : Int32) : ∃ r f', OpOK (fX8_pile a1 a2 a3) f g r f' := by
  have no : ∀ (r : Int32), (∀ Z : XM, Z 0 = f → fX8_addPile a1 a2 a3 Z = some (r, Z)) → ∃ r f', OpOK (fX8_pile a1 a2 a3) f g r f' := fun r h => ⟨r, f, op_no (k := fX8_addPile a1 a2 a3) hf h⟩
  have e2 : f 2 = nI (xun (f 2)) := (nI_xun _).symm
  have h4 := hf.1.2.2.2.1
  by_cases c1 : a1 < 0
  · exact no (-2) (fun Z _ => by unfold fX8_addPile; rw [if_pos c1])
  by_cases c2 : 5 < a1
  · exact no (-2) (fun Z _ => by unfold fX8_addPile; rw [if_neg c1, if_pos c2])
  by_cases c3 : a2 < 0
  · exact no (-2) (fun Z _ => by unfold fX8_addPile; rw [if_neg c1, if_neg c2, if_pos c3])
  by_cases c4 : 9 < a2
  · exact no (-2) (fun Z _ => by unfold fX8_addPile; rw [if_neg c1, if_neg c2, if_neg c3, if_neg (fun q => absurd c4 (Int32.not_lt.2 q))])
  by_cases c5 : a3 = 0 ∨ a3 = 1
  · have hc : xun a3 ≤ 1 := by rcases c5 with q | q <;> rw [q] <;> decide
    have cls : ∀ Z : XM, fX8_addPile a1 a2 a3 Z = zl (Z 0 2) (fun v_6 => if v_6 < 0 then some ((-4), Z) else if v_6 < 4 then zd v_6 4 (zv (fX3_fill 0 (Int32.toNatClampNeg v_6) a1 a2 a3 Z) (fun X_12 => zl (xup X_12 0 2 (v_6 + 1)) (fun X_14 => some (v_6, X_14)))) else some ((-4), Z)) := by
      intro Z
      unfold fX8_addPile
      rw [if_neg c1, if_neg c2, if_neg c3, if_pos (le_nlt c4)]
      rcases c5 with q | q
      · rw [if_pos q, q]
      · rw [if_neg (by rw [q]; decide), if_pos q, q]
    by_cases c6 : xun (f 2) = 4
    · have e4 : f 2 = 4 := by rw [e2, c6]; rfl
      exact no (-4) (fun Z hz => by rw [cls, zl_ok, hz, e4, if_neg (by decide), if_neg (by decide)])
    · have hn : xun (f 2) < 4 := by omega
      have ba := rng (x := a1) (lo := 0) (hi := 5) (by decide) (by decide) c1 c2
      have bb := rng (x := a2) (lo := 0) (hi := 9) (by decide) (by decide) c3 c4
      have gd := gok_dPile hf.1 (a := a1) (b := a2) (c := a3) rfl hn ba.2 bb.2 hc
      generalize hn' : xun (f 2) = n at *
      have f1 : upd (upd (upd (upd (upd f (11 + 4 * n) a1) (14 + 4 * n) a1) (12 + 4 * n) a2) (13 + 4 * n) a3) 2 (nI n + 1) = dPile f n a1 a2 a3 := by
        funext k
        have e : nI n + 1 = nI (n + 1) := nI_add n 1
        rw [e]
        unfold upd dPile
        repeat' split
        all_goals first | rfl | omega
      refine ⟨f 2, dPile f n a1 a2 a3, op_yes (k := fX8_addPile a1 a2 a3) ⟨gd, tle_dPile hf.2⟩ (by rw [e2]; exact nI_pos (by omega)) (fun Z hz => ?_)⟩
      rw [cls, zl_ok, hz, e2, if_neg (nI_pos (by omega)), if_pos (show nI n < 4 by rw [show (4 : Int32) = nI 4 from rfl, nI_ltI (by omega) (by decide)]; exact hn), zd_ok (vp_in_nI hn (by decide)), nI_clampN (by omega)]
      unfold fX3_fill
      simp only [zb_ok (b01 hc), zl_ok, zv_ok, xup_eq, srw_ss, srw_s, hz]
      rw [f1]
  · exact no (-2) (fun Z _ => by unfold fX8_addPile; rw [if_neg c1, if_neg c2, if_neg c3, if_pos (le_nlt c4), if_neg (fun q => c5 (Or.inl q)), if_neg (fun q => c5 (Or.inr q))])
theorem o_passes {f : Nat → Int32} (g : Nat → Int32) (hf : gk f) (a1 a2 : Int32) : ∃ r f', OpOK (fX8_passes a1 a2) f g r f' := by
  have no : (∀ Z : XM, fX8_givePasses a1 a2 Z = some (-2, Z)) → ∃ r f', OpOK (fX8_passes a1 a2) f g r f' := fun h => ⟨-2, f, op_no (k := fX8_givePasses a1 a2) hf (fun Z _ => h Z)⟩
  by_cases c1 : a1 < 0
  · exact no (fun Z => by unfold fX8_givePasses; rw [if_pos c1])
  by_cases c2 : 2 < a1
  · exact no (fun Z => by unfold fX8_givePasses; rw [if_neg c1, if_pos c2])
  by_cases c3 : a2 < 0
  · exact no (fun Z => by unfold fX8_givePasses; rw [if_neg c1, if_neg c2, if_pos c3])
  by_cases c4 : 2 < a2
  · exact no (fun Z => by unfold fX8_givePasses; rw [if_neg c1, if_neg c2, if_neg c3, if_neg (fun q => absurd c4 (Int32.not_lt.2 q))])
  have ba := rng (x := a1) (lo := 0) (hi := 2) (by decide) (by decide) c1 c2
  have bb := rng (x := a2) (lo := 0) (hi := 2) (by decide) (by decide) c3 c4
  have h7 := hf.1.2.2.2.2.2.2.2.1
  have h8 := hf.1.2.2.2.2.2.2.2.2.1
  refine ⟨f 7 + f 8, upd (upd f 7 a1) 8 a2, op_yes (k := fX8_givePasses a1 a2) ⟨gok_u8 (gok_u7 hf.1 ba.2) bb.2, tle_u (tle_u hf.2 (by decide)) (by decide)⟩ ?_ (fun Z hz => ?_)⟩
  · rw [← nI_xun (f 7), ← nI_xun (f 8), nI_add]
    exact nI_pos (by omega)
  · unfold fX8_givePasses
    rw [if_neg c1, if_neg c2, if_neg c3, if_pos (le_nlt c4), zl_ok, zl_ok, zl_ok, xup_eq, xup_eq, hz, srw_ss, srw_s]
theorem gsum_le {f : Nat → Int32} (h : gok f) : gsum f ≤ 20 := by
  have t0 := gT_le h (p := 0) (by decide)
  have t1 := gT_le h (p := 1) (by decide)
  have t2 := gT_le h (p := 2) (by decide)
  have t3 := gT_le h (p := 3) (by decide)
  unfold gsum
  omega
theorem o_begin {f : Nat → Int32} (g : Nat → Int32) (hf : gk f) : ∃ r f', OpOK fX8_begin f g r f' := by
  have gb := gok_begin hf.1
  have hs := gsum_le gb
  refine ⟨nI (gsum (dBegin f)), dBegin f, ⟨gb, tle_dBegin⟩, fun q => absurd q (nI_pos (by omega)), fun X n C P => ?_⟩
  have x0 := P.1.x0
  obtain ⟨Y, y1, y2⟩ := recd (M := srw (srw X 1 f) 0 (dBegin f)) (r := nI (gsum (dBegin f))) P srw_s ⟨gb, tle_dBegin⟩ (fun q => absurd q (nI_pos (by omega))) (by rw [srw_n (by decide), srw_s]) (fun q hq => by rw [srw_n (by omega), srw_n (by omega)]) (SI_cong P.1.si (by rw [srw_n (by decide), srw_n (by decide)]) (by rw [srw_n (by decide), srw_n (by decide)])) (SIn_cong P.1.sn (fun q a b => by rw [srw_n (by omega), srw_n (by omega)]))
  refine ⟨Y, ?_, y2⟩
  have e1 : srw X 1 f 0 = f := by rw [srw_n (by decide)]; exact x0
  unfold fX8_begin
  rw [f_copyFrom (by decide) P.1.z1 (by rw [x0]; exact P.1.g0.1.z) (by rw [x0]; exact P.1.g0.1.b), zv_ok, x0, f_restart (by rw [e1]; exact hf.1.z), zv_ok, e1, f_tokenSum (by rw [srw_s]; exact gb), zi_ok, srw_s, y1, zi_ok]
theorem o_take {f : Nat → Int32} (g : Nat → Int32) (hf : gk f) (a1 a2 : Int32) : ∃ r f', OpOK (fX8_take a1 a2) f g r f' := by
  have no : ∀ (r : Int32), (∀ Z : XM, Z 0 = f → fX8_takeTokens a1 a2 Z = some (r, Z)) → ∃ r f', OpOK (fX8_take a1 a2) f g r f' := fun r h => ⟨r, f, op_no (k := fX8_takeTokens a1 a2) hf h⟩
  have h4 := hf.1.2.2.2.1
  by_cases c1 : a1 < 0
  · exact no (-1) (fun Z _ => by unfold fX8_takeTokens; rw [f_hasPileN c1, zi_ok, if_pos rfl])
  obtain ⟨p, hp31, ep⟩ := nat_of c1
  by_cases c2 : p < xun (f 2)
  · have hp : p < 4 := by omega
    have hpile : ∀ Z : XM, Z 0 = f → fX0_hasPile 0 a1 Z = some (1, Z) := fun Z hz => by rw [f_hasPile (by rw [hz]; exact hf.1) ep hp31, hz, if_pos c2]
    by_cases c3 : a2 < 1
    · exact no (-5) (fun Z hz => by unfold fX8_takeTokens; rw [hpile Z hz, zi_ok, if_neg i10, if_pos c3])
    by_cases c4 : 5 < a2
    · exact no (-5) (fun Z hz => by unfold fX8_takeTokens; rw [hpile Z hz, zi_ok, if_neg i10, if_neg c3, if_pos c4])
    have bt := rng (x := a2) (lo := 1) (hi := 5) (by decide) (by decide) c3 c4
    have et : a2 = nI (xun a2) := (nI_xun _).symm
    generalize xun a2 = t at *
    have cls : ∀ Z : XM, Z 0 = f → fX8_takeTokens a1 a2 Z = if (gmoves f).testBit (5 * p + (t - 1)) = true then fX0_takeFrom 0 a1 a2 Z else some (-5, Z) := by
      intro Z hz
      have gz : gok (Z 0) := by rw [hz]; exact hf.1
      unfold fX8_takeTokens
      rw [hpile Z hz, zi_ok, if_neg i10, if_neg c3, if_neg c4]
      unfold fX8_takeMove
      rw [zi_ok, f_allows gz (k := 5 * p + (t - 1)) (by rw [ep, et]; exact mvcode p hp t (by omega) bt.1) (by omega), zi_ok, hz]
      by_cases c : (gmoves f).testBit (5 * p + (t - 1)) = true
      · rw [if_pos c, if_neg i10, if_pos c]
        cases hh : fX0_takeFrom 0 a1 a2 Z with
        | none => rfl
        | some v => rfl
      · rw [if_neg c, if_pos rfl, if_neg c]
    by_cases c : (gmoves f).testBit (5 * p + (t - 1)) = true
    · obtain ⟨c5, c6, c7⟩ := (take_bit hf.1 hp (t := t) (by omega) bt.1).1 c
      obtain ⟨m, hm1, hm, _⟩ := gok_mover hf.1
      have hw := (hf.1.2.2.2.2.2.2.2.2.2.1 p hp).2.1
      refine ⟨nI t * f (12 + 4 * p), dTake f m p t, op_yes (k := fX8_takeTokens a1 a2) ⟨gok_dTake hf.1 (m := m) hm1 hp c7 bt.1, tle_dTake hf.2 hm1 c7⟩ (by rw [← nI_xun (f (12 + 4 * p))]; exact gainpos t (by omega) _ (by omega)) (fun Z hz => ?_)⟩
      have gz : gok (Z 0) := by rw [hz]; exact hf.1
      rw [cls Z hz, if_pos c, f_takeFrom gz (m := m) (by rw [hz]; exact hm) hm1 ep et hp (by rw [hz]; exact c7) bt.1, hz]
    · exact no (-5) (fun Z hz => by rw [cls Z hz, if_neg c])
  · exact no (-1) (fun Z hz => by unfold fX8_takeTokens; rw [f_hasPile (by rw [hz]; exact hf.1) ep hp31, hz, if_neg c2, zi_ok, if_pos rfl])
theorem o_pass {f : Nat → Int32} (g : Nat → Int32) (hf : gk f) : ∃ r f', OpOK fX8_pass f g r f' := by
  by_cases c : (gmoves f).testBit 20 = true
  · obtain ⟨m, hm1, hm, hxm⟩ := gok_mover hf.1
    obtain ⟨c5, h0⟩ := mv_pass hf.1 c
    rw [hxm] at h0
    have hle : xun (f (7 + m)) ≤ 2 := by
      match m, hm1 with
      | 0, _ => exact hf.1.2.2.2.2.2.2.2.1
      | 1, _ => exact hf.1.2.2.2.2.2.2.2.2.1
    refine ⟨f (7 + m) - 1, dPass f m, op_yes (k := fX8_usePass) ⟨gok_dPass hf.1 (m := m) hm1 h0, tle_dPass hf.2 hm1⟩ ?_ (fun Z hz => ?_)⟩
    · rw [← nI_xun (f (7 + m)), show (1 : Int32) = nI 1 from rfl, nI_sub h0]
      exact nI_pos (by omega)
    · have gz : gok (Z 0) := by rw [hz]; exact hf.1
      unfold fX8_usePass
      rw [f_allows gz (a := 20) (k := 20) (show (20 : Int32) = nI 20 from rfl) (by decide), zi_ok, hz, if_pos c, if_neg i10, f_usePass gz (m := m) (by rw [hz]; exact hm) hm1, zi_ok, hz]
  · refine ⟨-5, f, op_no (k := fX8_usePass) hf (fun Z hz => ?_)⟩
    have gz : gok (Z 0) := by rw [hz]; exact hf.1
    unfold fX8_usePass
    rw [f_allows gz (a := 20) (k := 20) (show (20 : Int32) = nI 20 from rfl) (by decide), zi_ok, hz, if_neg c, if_pos rfl]
theorem playOn_ok {f : Nat → Int32} (hf : gk f) {a : Int32} {K : Nat} (ea : a = nI K) (b1 : 1 ≤ K) (b2 : K ≤ 40) (hg : gmoves f ≠ 0) : ∀ Z : XM, Z 0 = f → SIn Z → ∃ Z', fX8_playOn a Z = some (nI (plG K fuel 0 f).1, Z') ∧ Z' 0 = (plG K fuel 0 f).2 ∧ SIn Z' ∧ ∀ q, q ≠ 0 → q ≠ 13 → q ≠ 14 → q ≠ 15 → q ≠ 17 → Z' q = Z q := by
  intro Z hz hs
  have hfu := fuel_ge
  obtain ⟨M, m1, m2, m3, m4⟩ := f_plays (K := K) b2 fuel 0 f Z (by omega) (by omega) hf.1 hz hs
  refine ⟨M, ?_, m2, m3, m4⟩
  have gz : gok (Z 0) := by rw [hz]; exact hf.1
  have c1 : ¬ nI K < 1 := by rw [show (1 : Int32) = nI 1 from rfl, nI_ltI (by omega) (by decide)]; omega
  have c2 : nI K ≤ 40 := by rw [show (40 : Int32) = nI 40 from rfl, nI_leI (by omega) (by decide)]; exact b2
  unfold fX8_playOn
  rw [ea, if_neg c1, if_pos c2, f_isOver gz, zi_ok, hz, if_neg hg, if_pos rfl]
  exact m1
theorem o_play {f : Nat → Int32} (g : Nat → Int32) (hf : gk f) (a1 : Int32) : ∃ r f', OpOK (fX8_play a1) f g r f' := by
  have no : ∀ (r : Int32), (∀ Z : XM, Z 0 = f → fX8_playOn a1 Z = some (r, Z)) → ∃ r f', OpOK (fX8_play a1) f g r f' := fun r h => ⟨r, f, op_no (k := fX8_playOn a1) hf h⟩
  by_cases c1 : a1 < 1
  · exact no (-2) (fun Z _ => by unfold fX8_playOn; rw [if_pos c1])
  by_cases c2 : 40 < a1
  · exact no (-2) (fun Z _ => by unfold fX8_playOn; rw [if_neg c1, if_neg (fun q => absurd c2 (Int32.not_lt.2 q))])
  obtain ⟨b1, b2⟩ := rng (x := a1) (lo := 1) (hi := 40) (by decide) (by decide) c1 c2
  by_cases c3 : gmoves f = 0
  · exact no (-5) (fun Z hz => by unfold fX8_playOn; rw [if_neg c1, if_pos (le_nlt c2), f_isOver (by rw [hz]; exact hf.1), zi_ok, hz, if_pos c3, if_neg i10])
  · have hl := (plG_ok (K := xun a1) fuel 0 f hf.1 (by omega)).2
    exact ⟨nI (plG (xun a1) fuel 0 f).1, (plG (xun a1) fuel 0 f).2, op_of (k := fX8_playOn a1) (plG_gk fuel 0 f hf) (fun q => absurd q (nI_pos (by omega))) (playOn_ok hf (nI_xun a1).symm b1 b2 c3)⟩
theorem plG_one {f : Nat → Int32} (hg : gmoves f ≠ 0) : plG 1 fuel 0 f = (1, dMv f (bmN f)) := by
  have e : ∀ n, 2 ≤ n → plG 1 n 0 f = (1, dMv f (bmN f)) := by
    intro n hn
    obtain ⟨k, rfl⟩ : ∃ k, n = k + 2 := ⟨n - 2, by omega⟩
    show (if 1 ≤ 0 then (0, f) else if gmoves f = 0 then (0, f) else plG 1 (k + 1) (0 + 1) (dMv f (bmN f))) = _
    rw [if_neg (by decide), if_neg hg]
    exact if_pos (by decide)
  exact e fuel (by have := fuel_ge; omega)
theorem o_play1 {f : Nat → Int32} (g : Nat → Int32) (hf : gk f) (hg : gmoves f ≠ 0) : OpOK (fX8_play 1) f g 1 (dMv f (bmN f)) := by
  have hb := bm_ok hf.1 hg
  refine op_of (k := fX8_playOn 1) (gk_dMv hf hb.2.1 hb.2.2.2) (fun q => absurd q (by decide)) (fun Z hz hs => ?_)
  obtain ⟨Z', z1, z2, z3, z4⟩ := playOn_ok hf (a := 1) (K := 1) rfl (by decide) (by decide) hg Z hz hs
  rw [plG_one hg] at z1 z2
  exact ⟨Z', z1, z2, z3, z4⟩
theorem o_restore0 {f g : Nat → Int32} (hg : gk g) : OpOK (fX8_restore 0) f g (nI (gsum g)) g := by
  have hs := gsum_le hg.1
  refine ⟨hg, fun q => absurd q (nI_pos (by omega)), fun X n C P => ?_⟩
  have x0 := P.1.x0
  have x9 := P.2.2.1
  have e0 : srw X 1 f 0 = f := by rw [srw_n (by decide)]; exact x0
  have e9 : srw X 1 f 9 = g := by rw [srw_n (by decide)]; exact x9
  obtain ⟨Y, y1, y2⟩ := recd (M := srw (srw X 1 f) 0 g) (r := nI (gsum g)) P srw_s hg (fun q => absurd q (nI_pos (by omega))) (by rw [srw_n (by decide), srw_s]) (fun q hq => by rw [srw_n (by omega), srw_n (by omega)]) (SI_cong P.1.si (by rw [srw_n (by decide), srw_n (by decide)]) (by rw [srw_n (by decide), srw_n (by decide)])) (SIn_cong P.1.sn (fun q a b => by rw [srw_n (by omega), srw_n (by omega)]))
  refine ⟨Y, ?_, y2⟩
  have hz : (0 : Int32).toNatClampNeg = 0 := rfl
  unfold fX8_restore
  rw [if_neg (by decide), if_pos (by decide), zd_ok (show vp_in 0 2 from by unfold vp_in; decide), hz, show 9 + 0 = 9 from rfl, if_neg (by rw [P.2.1]; decide), f_copyFrom (by decide) P.1.z1 (by rw [x0]; exact P.1.g0.1.z) (by rw [x0]; exact P.1.g0.1.b), zv_ok, x0, zd_ok (show vp_in 0 2 from by unfold vp_in; decide), f_copyFrom (by decide) (by rw [e0]; exact P.1.g0.1.z) (by rw [e9]; exact hg.1.z) (by rw [e9]; exact hg.1.b), zv_ok, e9, f_tokenSum (by rw [srw_s]; exact hg.1), zi_ok, srw_s, y1, zi_ok]
theorem r1_no {X : XM} (h : X 12 1 = 0) : fX8_restore 1 X = some (-5, X) := by
  have hz : (1 : Int32).toNatClampNeg = 1 := rfl
  unfold fX8_restore
  rw [if_neg (by decide), if_pos (by decide), zd_ok (show vp_in 1 2 from by unfold vp_in; decide), hz, if_pos h]
theorem o_restore1 {f : Nat → Int32} (g : Nat → Int32) (hf : gk f) : OpOK (fX8_restore 1) f g (-5) f :=
  ⟨hf, fun _ => rfl, fun X n C P => ⟨X, r1_no P.1.s1, by
    unfold nx Cx
    rw [if_pos (by decide), if_pos (by decide)]
    exact P⟩⟩
theorem o_save {X : XM} {f : Nat → Int32} {n : Nat} {C : Nat → Nat → Int32} (P : PB X f n C) : ∃ Y, fX8_save 0 X = some (nI (gsum f), Y) ∧ PS Y f n C f := by
  have x0 := P.x0
  have hz : (0 : Int32).toNatClampNeg = 0 := rfl
  have p1 : ∀ r, r ≠ 9 → r ≠ 12 → srw (srw X 9 f) 12 (upd (X 12) 0 1) r = X r := fun r a b => by rw [srw_n b, srw_n a]
  have p9 : srw (srw X 9 f) 12 (upd (X 12) 0 1) 9 = f := by rw [srw_n (by decide), srw_s]
  have p12 : srw (srw X 9 f) 12 (upd (X 12) 0 1) 12 = upd (X 12) 0 1 := srw_s
  refine ⟨srw (srw X 9 f) 12 (upd (X 12) 0 1), ?_, ⟨⟨by rw [p1 0 (by decide) (by decide)]; exact x0, P.g0⟩, ⟨HC_cong P.hc (fun r hr => p1 r (by omega) (by omega)), P.gc⟩, ⟨by rw [p1 1 (by decide) (by decide)]; exact P.z1, by rw [p12]; exact P.s1, by rw [p9]; exact P.g0.1.z⟩, SI_cong P.si (p1 18 (by decide) (by decide)) (p1 19 (by decide) (by decide)), SIn_cong P.sn (fun r a b => p1 r (by omega) (by omega))⟩, by rw [p12]; rfl, p9, P.g0⟩
  unfold fX8_save
  rw [if_neg (by decide), if_pos (by decide), zd_ok (show vp_in 0 2 from by unfold vp_in; decide), hz, show 9 + 0 = 9 from rfl, f_copyFrom (by decide) P.z9 (by rw [x0]; exact P.g0.1.z) (by rw [x0]; exact P.g0.1.b), zv_ok, x0, zd_ok (show vp_in 0 2 from by unfold vp_in; decide), zl_ok, xup_eq, srw_n (by decide : 12 ≠ 9), f_tokenSum (by rw [p1 0 (by decide) (by decide), x0]; exact P.g0.1), zi_ok, p1 0 (by decide) (by decide), x0]
theorem o_undo {X : XM} {f : Nat → Int32} {n : Nat} {C : Nat → Nat → Int32} {g : Nat → Int32} (P : PS X f (n + 1) C g) : ∃ Y, fX8_undo X = some (nI n, Y) ∧ PS Y (C n) n C g := by
  obtain ⟨Y, hY, hc, y0, yr⟩ := f_takeBack P.1.hc (by rw [P.1.x0]; exact P.1.g0.1.z) (P.1.gc n (by omega)).1.b
  refine ⟨Y, ?_, ⟨⟨y0, P.1.gc n (by omega)⟩, ⟨hc, fun j hj => P.1.gc j (by omega)⟩, ⟨by rw [yr 1 (by decide) (by decide)]; exact P.1.z1, by rw [yr 12 (by decide) (by decide)]; exact P.1.s1, by rw [yr 9 (by decide) (by decide)]; exact P.1.z9⟩, SI_cong P.1.si (yr 18 (by decide) (by decide)) (yr 19 (by decide) (by decide)), SIn_cong P.1.sn (fun r a b => yr r (by omega) (by omega))⟩, by rw [yr 12 (by decide) (by decide)]; exact P.2.1, by rw [yr 9 (by decide) (by decide)]; exact P.2.2.1, P.2.2.2⟩
  unfold fX8_undo
  rw [hY, zi_ok, if_neg i10, hc.2.1]
theorem push_back {n : Nat} {C : Nat → Nat → Int32} {f : Nat → Int32} (hn : n ≤ 6) : ∃ k, pushN n = k + 1 ∧ pushC n C f k = f := by
  unfold pushN pushC
  by_cases c : n < 6
  · exact ⟨n, by rw [if_pos c], by rw [if_pos c, if_pos rfl]⟩
  · exact ⟨5, by rw [if_neg c], by rw [if_neg c, if_pos rfl]⟩
end ST8
