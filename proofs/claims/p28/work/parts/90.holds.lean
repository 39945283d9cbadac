/-! THE LAW's own methods: holds; it says yes at every game -/
section HO8
theorem fu : fuel = 999999 + 1 := rfl
theorem sub_sub_self (a b : Int32) : a - (a - b) = b := by
  rw [Int32.sub_eq_iff_eq_add, Int32.add_comm, Int32.sub_add_cancel]
theorem purse_sum (a b c : Int32) : (a + b + 100) + (c - b + 100) - 200 = a + c := by
  rw [Int32.sub_eq_iff_eq_add, Int32.add_assoc (a + b) 100 _, Int32.add_comm 100 (c - b + 100), Int32.add_assoc (c - b) 100 100, ← Int32.add_assoc (a + b) (c - b) (100 + 100), Int32.add_assoc a b (c - b), Int32.add_comm b (c - b), Int32.sub_add_cancel, show (100 + 100 : Int32) = 200 from by decide]
theorem purse_sum2 (a b c : Int32) : (a - b + 100) + (c + b + 100) - 200 = a + c := by
  rw [Int32.add_comm (a - b + 100), Int32.add_comm a c]
  exact purse_sum c b a
theorem purse_sum0 (a c : Int32) : (a + 100) + (c + 100) - 200 = a + c := by
  rw [Int32.sub_eq_iff_eq_add, Int32.add_assoc a 100 _, Int32.add_comm 100 (c + 100), Int32.add_assoc c 100 100, ← Int32.add_assoc a c (100 + 100), show (100 + 100 : Int32) = 200 from by decide]
theorem gwin_over {f : Nat → Int32} (h : gok f) (hg : gmoves f = 0) : gwin f = 0 ∨ gwin f = 1 := by
  unfold gwin
  rw [if_pos hg]
  have h3 := b01 h.2.2.2.2.1
  rcases h3 with e | e <;> rw [e]
  · by_cases c : f 5 = 0
    · rw [if_pos c]; exact Or.inr rfl
    · rw [if_neg c]; exact Or.inl rfl
  · by_cases c : f 5 = 0
    · rw [if_pos c]; exact Or.inl rfl
    · rw [if_neg c]; exact Or.inr rfl
theorem purses {f : Nat → Int32} (h : gok f) : (gpurse f 0 + 100) + (gpurse f 1 + 100) - 200 = f 9 + f 10 := by
  unfold gpurse
  by_cases hg : gmoves f = 0
  · rw [if_pos hg, if_pos hg]
    rcases gwin_over h hg with e | e
    · rw [e, if_pos (show (0 : Int32) = nI 0 from rfl), if_neg (show ¬ (0 : Int32) = nI 1 by decide)]
      exact purse_sum _ _ _
    · rw [e, if_neg (show ¬ (1 : Int32) = nI 0 by decide), if_pos (show (1 : Int32) = nI 1 from rfl)]
      exact purse_sum2 _ _ _
  · rw [if_neg hg, if_neg hg]
    exact purse_sum0 _ _
/-- an answer yes, the game as it was -/
def Yes (e : Option (Int32 × XM)) (f g : Nat → Int32) : Prop := ∃ Y n C, e = some (1, Y) ∧ PS Y f n C g
theorem h_494 {X : XM} {f f' : Nat → Int32} {n : Nat} {C : Nat → Nat → Int32} {g : Nat → Int32} (m : Nat) (P : PS X f' (n + 1) C g) (e : C n = f) (x1 x2 x3 x4 x5 x6 x7 x8 x9 x10 x11 x12 x13 : Int32) : Yes (fL_holds_494 (m + 1) x1 x2 x3 x4 x5 x6 x7 x8 x9 x10 x11 x12 x13 1 X) f g := by
  obtain ⟨Y, y1, y2⟩ := o_undo P
  rw [e] at y2
  exact ⟨Y, n, C, by rw [fL_holds_494, y1, zi_ok, zb_1], y2⟩
theorem h_386 {X : XM} {f : Nat → Int32} {n : Nat} {C : Nat → Nat → Int32} {g : Nat → Int32} (m : Nat) (P : PS X f n C g) (hg : gmoves f ≠ 0) (x1 x2 x3 x4 x5 x6 x7 x8 : Int32) : Yes (fL_holds_386 (m + 1) x1 x2 x3 x4 x5 x6 x7 x8 (Vn f) X) f g := by
  have hf := P.1.g0
  obtain ⟨mm, hm1, em, um⟩ := gok_mover hf.1
  obtain ⟨h5, b1, b2, b3⟩ := bm_ok hf.1 hg
  obtain ⟨-, -, hop⟩ := o_play1 g hf hg
  obtain ⟨Z, z1, z2⟩ := hop X n C P
  obtain ⟨k, k1, k2⟩ := push_back (C := C) (f := f) P.1.hc.1
  have e1 : nx 1 n = k + 1 := by unfold nx; rw [if_neg (by decide)]; exact k1
  have e2 : Cx 1 n C f = pushC n C f := by unfold Cx; rw [if_neg (by decide)]
  rw [e1, e2] at z2
  have hbv := best_val hf.1 hg
  have hps := psB_next hf.1 b1 b3
  have hgn := dMv_gain hf.1 em um hm1 (mv := bmN f)
  have e1f : dMv f (bmN f) 1 = f 1 := (dMv_same hf.1 b1).2.1.symm
  have gf := z2.1.g0.1
  have ht : xun (dMv f (bmN f) 3) = 1 - mm := mover_turn hf.1 em hm1
  have e3 : dMv f (bmN f) 3 = nI (1 - mm) := xun_eq ht
  rw [fL_holds_386, c_2 P, zi_ok, em, y_gain P (w := mm) (by omega), zi_ok, c_8 P, zi_ok, z1, zi_ok, y_gain z2 (w := mm) (by omega), zi_ok, zl_ok, hgn, c_3 z2, zi_ok]
  generalize hf' : dMv f (bmN f) = f' at *
  by_cases ho : gmoves f' = 0
  · rw [if_pos ho, if_pos rfl, c_4 z2, zi_ok]
    by_cases hp : psB f (gcode f) (bmN f) = true
    · have h51 : f' 5 = 1 := hps.1.1 hp
      have hw : ¬ gwin f' = nI mm := by
        unfold gwin
        rw [if_pos ho, if_neg (by rw [h51]; decide), e3]
        intro q
        have := nI_inj (by omega) (by omega) q
        omega
      rw [if_pos hp] at hbv
      rw [if_neg hw, if_pos (by rw [hbv, Int32.sub_eq_add_neg]), fu]
      exact h_494 _ z2 k2 _ _ _ _ _ _ _ _ _ _ _ _ _
    · have hp0 := Bool.eq_false_iff.mpr hp
      have h50 : f' 5 = 0 := hps.2.1 hp0
      have hw : gwin f' = nI mm := by
        unfold gwin
        rw [if_pos ho, if_pos h50, e3]
        match mm, hm1 with
        | 0, _ => rfl
        | 1, _ => rfl
      rw [if_neg hp, over_val gf h50 ho, e1f, Int32.sub_neg] at hbv
      rw [if_pos hw, if_pos hbv, fu]
      exact h_494 _ z2 k2 _ _ _ _ _ _ _ _ _ _ _ _ _
  · have hp : ¬ psB f (gcode f) (bmN f) = true := fun q => ho (by
      have h51 : f' 5 = 1 := hps.1.1 q
      unfold gmoves
      rw [if_neg (by rw [h51]; decide)])
    obtain ⟨Z2, y1, y2⟩ := a_value z2 ho
    rw [if_neg hp] at hbv
    rw [if_neg ho, if_neg (show ¬ (0 : Int32) = 1 by decide), y1, zi_ok, Int32.add_sub_cancel, Vs_now gf, if_pos (by rw [hbv, sub_sub_self]), fu]
    exact h_494 _ y2 k2 _ _ _ _ _ _ _ _ _ _ _ _ _
def Pl (f : Nat → Int32) (p : Nat) (x : Int32) : Prop := x = 0 ∨ (x = 1 ∧ f 7 = 0 ∧ f 8 = 0 ∧ ∀ j, j < p → f (13 + 4 * j) = 0)
theorem h_353 {X : XM} {f : Nat → Int32} {n : Nat} {C : Nat → Nat → Int32} {g : Nat → Int32} (m : Nat) (P : PS X f n C g) (hg : gmoves f ≠ 0) {x4 : Int32} (hx : Pl f (xun (f 2)) x4) (x1 x2 x3 x6 x7 x8 : Int32) : Yes (fL_holds_353 (m + 1) x1 x2 x3 x4 (nI (nimK f (xun (f 2)))) x6 x7 x8 (Vn f) X) f g := by
  rw [fL_holds_353]
  rcases hx with e | ⟨e, h7, h8, hp⟩
  · rw [if_pos e, fu]
    exact h_386 _ P hg _ _ _ _ _ _ _ _
  · rw [if_neg (by rw [e]; decide)]
    obtain ⟨Y, y1, y2⟩ := a_won P hg
    have hw := plain_won P.1.g0 h7 h8 hp
    have hl := nimK_lt f (xun (f 2))
    by_cases c : nimK f (xun (f 2)) = 0
    · rw [decide_eq_false (fun q => q c)] at hw
      rw [if_pos ((nI_z (by omega)).2 c), y1, zi_ok, hw, if_neg (show ¬ bI false = 1 by decide), fu]
      exact h_386 _ y2 hg _ _ _ _ _ _ _ _
    · rw [decide_eq_true c] at hw
      rw [if_neg (fun q => c ((nI_z (by omega)).1 q)), y1, zi_ok, hw, if_pos (show bI true = 1 from rfl), fu]
      exact h_386 _ y2 hg _ _ _ _ _ _ _ _
theorem h_over {X : XM} {f : Nat → Int32} {n : Nat} {C : Nat → Nat → Int32} {g : Nat → Int32} (m : Nat) (P : PS X f n C g) (hg : gmoves f = 0) (x1 x3 x4 x5 x6 : Int32) : Yes (fL_holds_241 (m + 1) x1 1 x3 x4 x5 x6 X) f g := by
  obtain ⟨o1, o2, o3, o4⟩ := a_over P hg
  exact ⟨X, n, C, by rw [fL_holds_241, if_neg i10, o3, zi_ok, if_pos rfl, o1, zi_ok, if_pos rfl, o2, zi_ok, if_pos rfl, o4, zi_ok, if_pos rfl], P⟩
theorem m1_nI : (-1 : Int32) = nI (2 ^ 32 - 1) := by decide +kernel
theorem in_moves {f : Nat → Int32} (h : gok f) (h5 : f 5 = 0) : nI (bsum (wpB f (sptN f)) 21) &&& (nI (gmoves f) ^^^ (-1)) = 0 := by
  rw [m1_nI, fb_xorI, fa_and]
  have e : bsum (wpB f (sptN f)) 21 &&& (gmoves f ^^^ (2 ^ 32 - 1)) = 0 := by
    apply Nat.eq_of_testBit_eq
    intro i
    rw [Nat.testBit_and, Nat.testBit_xor, Nat.testBit_two_pow_sub_one, Nat.zero_testBit, bsum_bit]
    by_cases hi : i < 21
    · rw [gm_bit h h5 hi, decide_eq_true hi, decide_eq_true (show i < 32 by omega)]
      unfold wpB
      cases cnB f (sptN f) i <;> cases mwW f (sptN f) i <;> rfl
    · rw [decide_eq_false hi]
      rfl
  rw [e]
  rfl
theorem h_241 {X : XM} {f : Nat → Int32} {n : Nat} {C : Nat → Nat → Int32} {g : Nat → Int32} (m : Nat) (P : PS X f n C g) (hg : gmoves f ≠ 0) {x4 : Int32} (hx : Pl f (xun (f 2)) x4) (x3 x6 : Int32) : Yes (fL_holds_241 (m + 1) (nI (gmoves f)) 0 x3 x4 (nI (nimK f (xun (f 2)))) x6 X) f g := by
  have hf := P.1.g0
  obtain ⟨h5, b1, b2, b3⟩ := bm_ok hf.1 hg
  obtain ⟨Y1, y1, P1⟩ := a_winning P hg
  obtain ⟨Y2, y2, P2⟩ := a_best P1 hg
  obtain ⟨Y3, y3, P3⟩ := a_value P2 hg
  obtain ⟨Y4, y4, P4⟩ := a_won P3 hg
  have hl := gmoves_lt hf.1
  have hs : o_shr (nI (gmoves f)) (nI (bmN f)) &&& 1 = 1 := (s_bit (by omega) (by omega)).2 b3
  have hb : bsum (wpB f (sptN f)) 21 < 2 ^ 21 := bsum_lt _ 21
  have hW : Ws f (sptN f) = anB (wpB f (sptN f)) 21 := Ws_eq (spt_parts hf.1).1
  have hany := bsum_any (wpB f (sptN f)) 21
  rw [fL_holds_241, if_pos rfl, y1, zi_ok, y2, zi_ok, y3, zi_ok, zl_ok, if_pos (in_moves hf.1 h5), if_neg (by rw [hs]; decide), y4, zi_ok, Int32.add_sub_cancel, Vs_now hf.1]
  cases hw : anB (wpB f (sptN f)) 21
  · have hz : bsum (wpB f (sptN f)) 21 = 0 := hany.2 hw
    rw [hW, hw, if_neg (show ¬ bI false = 1 by decide), hz, if_pos (show nI 0 = (0 : Int32) from rfl), fu]
    exact h_353 _ P4 hg hx _ _ _ _ _ _
  · have hz : ¬ bsum (wpB f (sptN f)) 21 = 0 := fun q => absurd (hany.1 q) (by rw [hw]; decide)
    rw [hW, hw, if_pos (show bI true = 1 from rfl), if_neg (fun q => hz ((nI_z (by omega)).1 q)), fu]
    exact h_353 _ P4 hg hx _ _ _ _ _ _
theorem tok_nI (f : Nat → Int32) (p : Nat) : f (11 + 4 * p) = nI (gT f p) := (nI_xun _).symm
theorem h_95 {X : XM} {f : Nat → Int32} {n : Nat} {C : Nat → Nat → Int32} {g : Nat → Int32} (m : Nat) (P : PS X f n C g) {p : Nat} (hp : p < xun (f 2)) {k53 : Int32 → Int32 → Int32 → Int32 → Int32 → Int32 → XM → Option (Int32 × XM)} {x1 x2 x3 x4 : Int32} (hk : ∀ Y, PS Y f n C g → Yes (k53 x1 x2 x3 x4 (nI (nimK f (p + 1))) (nI (p + 1)) Y) f g) : Yes (fL_holds_95 k53 (m + 1) x1 x2 x3 x4 (nI (nimK f p)) (nI p) X) f g := by
  have hf := P.1.g0
  have h4 := hf.1.2.2.2.1
  have hT := gT_le hf.1 (p := p) (by omega)
  obtain ⟨Y1, y1, P1⟩ := h_nim P hp
  obtain ⟨Y2, y2, P2⟩ := h_nim P1 hp
  obtain ⟨Y3, y3, P3⟩ := a_grundy P2 (t := gT f p) (by omega)
  have hle := hf.2 p (by omega)
  have hP := hf.1.2.2.2.2.2.2.2.2.2.1 p (by omega)
  have ec : f (14 + 4 * p) = nI (xun (f (14 + 4 * p))) := (nI_xun _).symm
  have n1 : ¬ f (11 + 4 * p) < 0 := nn hP.1 (by decide)
  have n2 : ¬ f (14 + 4 * p) < f (11 + 4 * p) := by
    rw [ec, tok_nI f p, nI_ltI (by omega) (by omega)]
    have : gT f p = xun (f (11 + 4 * p)) := rfl
    omega
  rw [fL_holds_95, y1, zi_ok, zl_ok, fb_xorI, h_tok P1 hp, zi_ok, if_neg n1, h_tok P1 hp, zi_ok, h_came P1 hp, zi_ok, if_neg n2, y2, zi_ok, h_tok P2 hp, zi_ok, tok_nI f p, y3, zi_ok, if_pos rfl, nI_1]
  exact hk Y3 P3
theorem h_53 {f : Nat → Int32} {n : Nat} {C : Nat → Nat → Int32} {g : Nat → Int32} {x2 : Int32} (h2 : (gmoves f = 0 ∧ x2 = 1) ∨ (gmoves f ≠ 0 ∧ x2 = 0)) : ∀ (m p : Nat) (X : XM) (x4 : Int32), p ≤ xun (f 2) → xun (f 2) < p + m → PS X f n C g → Pl f p x4 → Yes (fL_holds_53 m (nI (gmoves f)) x2 (nI (psum f p)) x4 (nI (nimK f p)) (nI p) X) f g := by
  intro m
  induction m with
  | zero => intro p X x4 a b; omega
  | succ m ih =>
    intro p X x4 a b P hx
    have hf := P.1.g0
    have h4 := hf.1.2.2.2.1
    have hl := gmoves_lt hf.1
    have e2 : f 2 = nI (xun (f 2)) := (nI_xun _).symm
    rw [fL_holds_53, c_0 P, zi_ok]
    by_cases c : xun (f 2) ≤ p
    · have ep : p = xun (f 2) := by omega
      subst ep
      have u0 : fX8_ofPlayer 0 2 X = some (gpurse f 0 + 100, X) := y_purse P (w := 0) (by decide)
      have u1 : fX8_ofPlayer 1 2 X = some (gpurse f 1 + 100, X) := y_purse P (w := 1) (by decide)
      have u2 : fX8_ofPlayer 0 0 X = some (f 9, X) := y_gain P (w := 0) (by decide)
      have u3 : fX8_ofPlayer 1 0 X = some (f 10, X) := y_gain P (w := 1) (by decide)
      rw [if_pos (show f 2 ≤ nI (xun (f 2)) by rw [← e2]; exact Int32.le_refl _), u0, zi_ok, u1, zi_ok, zl_ok, purses hf.1, u2, zi_ok, u3, zi_ok, if_pos rfl, c_1 P, zi_ok, psum_all hf.1, if_pos rfl]
      rcases h2 with ⟨hg, hx2⟩ | ⟨hg, hx2⟩
      · rw [if_pos (by rw [hg]; rfl), if_pos hx2, c_4 P, zi_ok, if_neg (by rcases gwin_over hf.1 hg with e | e <;> rw [e] <;> decide), fu]
        exact h_over _ P hg _ _ _ _ _
      · rw [if_neg (fun q => hg ((nI_z (by omega)).1 q)), if_pos hx2, c_4 P, zi_ok, if_pos (by rw [(gwin_6 hf.1).2 hg]; decide), fu]
        exact h_241 _ P hg hx _ _
    · have hp : p < xun (f 2) := by omega
      have es : nI (psum f p) + f (11 + 4 * p) = nI (psum f (p + 1)) := by
        rw [tok_nI f p, nI_add]
        rfl
      rw [if_neg (show ¬ f 2 ≤ nI p by rw [e2]; exact fun q => c ((le_nI (by omega) (by omega)).1 q)), h_tok P hp, zi_ok, zl_ok, es]
      rcases hx with hx | ⟨hx, h7, h8, hj⟩
      · rw [if_pos hx, fu]
        exact h_95 _ P hp (fun Y PY => ih (p + 1) Y 0 (by omega) (by omega) PY (Or.inl rfl))
      · rw [if_neg (by rw [hx]; decide), h_poi P hp, zi_ok]
        by_cases d : f (13 + 4 * p) = 0
        · rw [if_pos d, fu]
          refine h_95 _ P hp (fun Y PY => ih (p + 1) Y 1 (by omega) (by omega) PY (Or.inr ⟨rfl, h7, h8, fun j hj2 => ?_⟩))
          by_cases e : j = p
          · rw [e]; exact d
          · exact hj j (by omega)
        · rw [if_neg d, fu]
          exact h_95 _ P hp (fun Y PY => ih (p + 1) Y 0 (by omega) (by omega) PY (Or.inl rfl))
theorem h_20 {X : XM} {f : Nat → Int32} {n : Nat} {C : Nat → Nat → Int32} {g : Nat → Int32} (m : Nat) (P : PS X f n C g) {x2 : Int32} (h2 : (gmoves f = 0 ∧ x2 = 1) ∨ (gmoves f ≠ 0 ∧ x2 = 0)) : Yes (fL_holds_20 (m + 1) (nI (gmoves f)) x2 X) f g := by
  have h4 := P.1.g0.1.2.2.2.1
  have hfu := fuel_ge
  have u0 : fX8_ofPlayer 0 1 X = some (f 7, X) := y_pass P (w := 0) (by decide)
  have u1 : fX8_ofPlayer 1 1 X = some (f 8, X) := y_pass P (w := 1) (by decide)
  have go : ∀ x4, Pl f 0 x4 → Yes (fL_holds_47 fuel (nI (gmoves f)) x2 0 x4 X) f g := by
    intro x4 hx
    have key := h_53 (C := C) (g := g) (n := n) h2 fuel 0 X x4 (Nat.zero_le _) (by omega) P hx
    rw [show fL_holds_47 fuel (nI (gmoves f)) x2 0 x4 X = fL_holds_47 (999999 + 1) (nI (gmoves f)) x2 0 x4 X from rfl, fL_holds_47]
    exact key
  rw [fL_holds_20, u0, zi_ok]
  by_cases c7 : f 7 = 0
  · rw [if_pos c7, u1, zi_ok]
    by_cases c8 : f 8 = 0
    · rw [if_pos c8]
      exact go 1 (Or.inr ⟨rfl, c7, c8, fun j hj => absurd hj (by omega)⟩)
    · rw [if_neg c8]
      exact go 0 (Or.inl rfl)
  · rw [if_neg c7]
    exact go 0 (Or.inl rfl)
theorem holds_ok {X : XM} {f : Nat → Int32} {n : Nat} {C : Nat → Nat → Int32} {g : Nat → Int32} (P : PS X f n C g) : Yes (fL_holds X) f g := by
  unfold fL_holds
  rw [a_moves P, zi_ok, c_3 P, zi_ok]
  by_cases hg : gmoves f = 0
  · rw [if_pos hg, if_pos rfl, fu]
    exact h_20 _ P (Or.inl ⟨hg, rfl⟩)
  · rw [if_neg hg, if_neg (show ¬ (0 : Int32) = 1 by decide), fu]
    exact h_20 _ P (Or.inr ⟨hg, rfl⟩)
end HO8
