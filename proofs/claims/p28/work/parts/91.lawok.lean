/-! THE LAW's run: no comparison fails -/
section LO8
def TL (f : Nat → Int32) (t : Int64) : Prop := ∀ X n C g, PS X f n C g → ∃ Y, fL_told X = some (t, Y) ∧ PS Y f n C g
/-- what told answers of a game -/
noncomputable def tlF (f : Nat → Int32) : Int64 := Classical.epsilon (TL f)
theorem tl_ok {X : XM} {f : Nat → Int32} {n : Nat} {C : Nat → Nat → Int32} {g : Nat → Int32} (P : PS X f n C g) : ∃ Y, fL_told X = some (tlF f, Y) ∧ PS Y f n C g := by
  have h : TL f (tlF f) := Classical.epsilon_spec (told_ok P.1.g0)
  exact h X n C g P
theorem cmp_self (t : Int64) : lg_cmp t t = 0 := by
  unfold lg_cmp
  rw [if_neg (show ¬ t > t from fun h => by have h9 := (fa_lt64 t t).1 h; omega), if_pos rfl]
variable {xs : Nat → Int32} {N i : Nat} {k45 : Int64 → Int32 → XM → Option Unit}
theorem l_309 (m : Nat) {X : XM} {t b a : Int64} {v w cc r : Int32} (h : k45 t (nI (i + 1)) X = some ()) : fL_law_309 xs N k45 (m + 1) t (nI i) v w b cc r a X = some () := by
  rw [fL_law_309, nI_1]
  exact h
theorem l_288 (m : Nat) {X : XM} {f g : Nat → Int32} {n : Nat} {C : Nat → Nat → Int32} (hk : ∀ X f n C g, PS X f n C g → k45 (tlF g) (nI (i + 1)) X = some ()) (P : PS X f n C g) (v w cc r : Int32) (b : Int64) : fL_law_288 xs N k45 (m + 1) (tlF g) (nI i) v w b cc r (tlF f) X = some () := by
  rw [fL_law_288]
  by_cases c : o_shr v 10 &&& 7 = 1
  · obtain ⟨Y, y1, y2⟩ := o_save P.1
    rw [if_pos c, y1, zi_ok, fu]
    exact l_309 _ (hk Y f n C f y2)
  · rw [if_neg c, fu]
    exact l_309 _ (hk X f n C g P)
theorem l_261 (m : Nat) {X : XM} {f g : Nat → Int32} {n : Nat} {C : Nat → Nat → Int32} (hk : ∀ X f n C g, PS X f n C g → k45 (tlF g) (nI (i + 1)) X = some ()) (P : PS X f n C g) (v w cc r : Int32) (b : Int64) : fL_law_261 xs N k45 (m + 1) (tlF g) (nI i) v w b cc r (tlF f) X = some () := by
  rw [fL_law_261]
  by_cases c : o_rem (nI i) 4 = 3
  · obtain ⟨Y, n', C', y1, P1⟩ := holds_ok P
    obtain ⟨Z, z1, P2⟩ := tl_ok P1
    rw [if_pos c, y1, zi_ok, if_neg i10, z1, zi_ok, cmp_self, if_pos rfl, fu]
    exact l_288 _ hk P2 v w cc r b
  · rw [if_neg c, fu]
    exact l_288 _ hk P v w cc r b
theorem l_192 (m : Nat) {X : XM} {f f' g : Nat → Int32} {n : Nat} {C : Nat → Nat → Int32} {v w r : Int32} (hk : ∀ X f n C g, PS X f n C g → k45 (tlF g) (nI (i + 1)) X = some ()) (hn : n ≤ 6) (A : ActOK v w f g r f') (P : PS X f' (nx r n) (Cx r n C f) g) (cc : Int32) : fL_law_192 xs N k45 (m + 1) (tlF g) (nI i) v w (tlF f) cc r (tlF f') X = some () := by
  rw [fL_law_192]
  by_cases c : r < 0
  · rw [if_pos c, fu]
    exact l_261 _ hk P v w cc r _
  · rw [if_neg c]
    by_cases d : o_shr v 9 &&& 1 = 0
    · obtain ⟨k, k1, k2⟩ := push_back (C := C) (f := f) hn
      have e1 : nx r n = k + 1 := by unfold nx; rw [if_neg c]; exact k1
      have e2 : Cx r n C f = pushC n C f := by unfold Cx; rw [if_neg c]
      rw [e1, e2] at P
      obtain ⟨Y1, y1, P1⟩ := o_undo P
      rw [k2] at P1
      obtain ⟨Y2, y2, P2⟩ := tl_ok P1
      obtain ⟨Y3, y3, P3⟩ := A.1.2.2 Y2 _ _ P2
      obtain ⟨Y4, y4, P4⟩ := tl_ok P3
      rw [if_pos d, c_10 P, zi_ok, zl_ok, nI_pred, y1, zi_ok, if_pos rfl, y2, zi_ok, cmp_self, if_pos rfl, y3, zi_ok, if_pos rfl, y4, zi_ok, cmp_self, if_pos rfl, fu]
      exact l_261 _ hk P4 v w cc r _
    · rw [if_neg d, fu]
      exact l_261 _ hk P v w cc r _
theorem l_168 (m : Nat) {X : XM} {f f' g : Nat → Int32} {n : Nat} {C : Nat → Nat → Int32} {v w r : Int32} (hk : ∀ X f n C g, PS X f n C g → k45 (tlF g) (nI (i + 1)) X = some ()) (hn : n ≤ 6) (A : ActOK v w f g r f') (P : PS X f' (nx r n) (Cx r n C f) g) (cc : Int32) : fL_law_168 xs N k45 (m + 1) (tlF g) (nI i) v w (tlF f) cc r (tlF f') X = some () := by
  rw [fL_law_168]
  by_cases c : r < 0
  · rw [if_pos c, fu]
    exact l_192 _ hk hn A P cc
  · rw [if_neg c]
    by_cases d : v &&& 15 = 8
    · have e := A.2 d c
      rw [if_pos d, e, cmp_self, if_pos rfl, fu]
      rw [e] at A P
      exact l_192 _ hk hn A P cc
    · rw [if_neg d, fu]
      exact l_192 _ hk hn A P cc
theorem l_72 (m : Nat) {X : XM} {f g : Nat → Int32} {n : Nat} {C : Nat → Nat → Int32} (hi : i < 36) (hk : ∀ X f n C g, PS X f n C g → k45 (tlF g) (nI (i + 1)) X = some ()) (P : PS X f n C g) (v : Int32) : fL_law_72 xs N k45 (m + 1) (tlF g) (nI i) v X = some () := by
  have hn := P.1.hc.1
  have e2 : 2 * nI i + 1 = nI (2 * i + 1) := by
    rw [show (2 : Int32) = nI 2 from rfl, pk_mul, nI_1]
  rw [fL_law_72, zn_ok (by rw [e2]; exact nI_pos (by omega)), zl_ok]
  generalize cellF xs N (2 * nI i + 1) = w
  obtain ⟨r, f', A⟩ := act_ok P.1.g0 P.2.2.2 v w
  obtain ⟨Y1, y1, P1⟩ := tl_ok P
  obtain ⟨Y2, y2, P2⟩ := A.1.2.2 Y1 _ _ P1
  obtain ⟨Y3, y3, P3⟩ := tl_ok P2
  rw [y1, zi_ok, c_10 P1, zi_ok, y2, zi_ok, y3, zi_ok]
  by_cases c : 0 ≤ r
  · have c' : ¬ r < 0 := Int32.not_lt.2 c
    have e1 : nx r n = pushN n := by unfold nx; rw [if_neg c']
    rw [if_pos c, c_10 P3, zi_ok, e1]
    by_cases d : n = 6
    · have ep : pushN n = 6 := by unfold pushN; rw [if_neg (by omega)]
      rw [if_pos (show (6 : Int32) ≤ nI n by rw [d]; decide), ep, if_pos (show nI 6 = (6 : Int32) from rfl), fu]
      exact l_168 _ hk hn A P3 _
    · have ep : pushN n = n + 1 := by unfold pushN; rw [if_pos (by omega)]
      rw [if_neg (show ¬ (6 : Int32) ≤ nI n from fun q => d (by have := (le_nI (a := 6) (by decide) (by omega)).1 q; omega)), ep, if_pos (nI_1 n).symm, fu]
      exact l_168 _ hk hn A P3 _
  · have c' : r < 0 := Int32.not_le.1 c
    have ef := A.1.2.1 c'
    have e1 : nx r n = n := by unfold nx; rw [if_pos c']
    rw [if_neg c, ef, cmp_self, if_pos rfl, c_10 P3, zi_ok, e1, if_pos rfl, fu]
    rw [ef] at A P3
    exact l_168 _ hk hn A P3 _
theorem l_315 (m : Nat) {X : XM} {f g : Nat → Int32} {n : Nat} {C : Nat → Nat → Int32} (P : PS X f n C g) (x4 : Int32) : fL_law_315 xs N (m + 1) (tlF g) x4 X = some () := by
  obtain ⟨Y1, y1, P1⟩ := (o_restore0 (f := f) P.2.2.2).2.2 X n C P
  obtain ⟨Y2, y2, P2⟩ := tl_ok P1
  rw [fL_law_315, y1, zi_ok, c_1 P1, zi_ok, if_pos rfl, y2, zi_ok, cmp_self, if_pos rfl]
theorem l_45 : ∀ (m i : Nat) (X : XM) (f : Nat → Int32) (n : Nat) (C : Nat → Nat → Int32) (g : Nat → Int32), i ≤ 36 → 36 < i + m → PS X f n C g → fL_law_45 xs N m (tlF g) (nI i) X = some () := by
  intro m
  induction m with
  | zero => intro i X f n C g a b; omega
  | succ m ih =>
    intro i X f n C g a b P
    rw [fL_law_45]
    by_cases c : 36 ≤ i
    · rw [if_pos (show (36 : Int32) ≤ nI i from (le_nI (a := 36) (by decide) (by omega)).2 c), fu]
      exact l_315 _ P _
    · rw [if_neg (show ¬ (36 : Int32) ≤ nI i from fun q => c ((le_nI (a := 36) (by decide) (by omega)).1 q))]
      have hk : ∀ X f n C g, PS X f n C g → fL_law_45 xs N m (tlF g) (nI (i + 1)) X = some () := fun X f n C g P => ih (i + 1) X f n C g (by omega) (by omega) P
      have e2 : 2 * nI i = nI (2 * i) := by rw [show (2 : Int32) = nI 2 from rfl, pk_mul]
      by_cases d : (3 : Int32) ≤ nI i
      · rw [if_pos d, zn_ok (by rw [e2]; exact nI_pos (by omega)), zl_ok, fu]
        exact l_72 _ (by omega) hk P _
      · rw [if_neg d, fu]
        exact l_72 _ (by omega) hk P _
/-! the start -/
theorem XI_row {r : Nat} (hr : r ≤ 10) : XI r = XI 0 := by
  match r, hr with
  | 0, _ => rfl
  | 1, _ => rfl
  | 2, _ => rfl
  | 3, _ => rfl
  | 4, _ => rfl
  | 5, _ => rfl
  | 6, _ => rfl
  | 7, _ => rfl
  | 8, _ => rfl
  | 9, _ => rfl
  | 10, _ => rfl
theorem XI_z : z27 (XI 0) := by
  intro k hk
  match k, hk with
  | k + 27, _ => rfl
theorem XI_gk : gk (XI 0) := by
  refine ⟨⟨by decide, by decide, by decide, by decide, by decide, by decide, by decide, by decide, by decide, fun p hp => ?_, XI_z⟩, fun p hp => ?_⟩
  · match p, hp with
    | 0, _ => decide
    | 1, _ => decide
    | 2, _ => decide
    | 3, _ => decide
  · match p, hp with
    | 0, _ => decide
    | 1, _ => decide
    | 2, _ => decide
    | 3, _ => decide
theorem XI_hc : HC XI 0 (fun _ => XI 0) := by
  refine ⟨by decide, rfl, ?_, ?_, ?_, ?_⟩
  · intro j hj
    match j, hj with
    | 0, _ => decide
    | 1, _ => decide
    | 2, _ => decide
    | 3, _ => decide
    | 4, _ => decide
    | 5, _ => decide
  · intro i j hi hj
    have e : ∀ i, i < 6 → gid XI i = i + 3 := by
      intro i hi
      match i, hi with
      | 0, _ => decide
      | 1, _ => decide
      | 2, _ => decide
      | 3, _ => decide
      | 4, _ => decide
      | 5, _ => decide
    rw [e i hi, e j hj]
    omega
  · intro r a b
    rw [XI_row (by omega)]
    exact XI_z
  · intro j hj; omega
theorem XI_pb : PB XI (XI 0) 0 (fun _ => XI 0) :=
  ⟨⟨rfl, XI_gk⟩, ⟨XI_hc, fun j hj => absurd hj (by omega)⟩, ⟨by rw [XI_row (by decide)]; exact XI_z, rfl, by rw [XI_row (by decide)]; exact XI_z⟩, Or.inl rfl, by decide +kernel, rfl, Or.inl rfl⟩
theorem law_pure : fL_law xs N XI = some () := by
  obtain ⟨Y, y1, P⟩ := o_save XI_pb
  obtain ⟨Z, z1, P2⟩ := tl_ok P
  have e1 : fX8_undo XI = some (-5, XI) := by
    unfold fX8_undo
    rw [f_takeBack0 XI_hc, zi_ok, if_pos rfl]
  have e2 : fX8_restore 1 XI = some (-5, XI) := r1_no rfl
  have e3 : nI (gsum (XI 0)) = 0 := by decide
  have hfu := fuel_ge
  unfold fL_law
  rw [e1, zi_ok, if_pos rfl, e2, zi_ok, if_pos rfl, y1, zi_ok, if_pos e3, z1, zi_ok]
  exact l_45 fuel 0 Z _ _ _ _ (by decide) (by omega) P2
end LO8
