/-! THE REFERENCE reads a text -/
section RT
/-- the reference's pad alone -/
def PD2 (X : XM) (len : Nat) (c : Nat → Nat) : Prop := len ≤ 80 ∧ X 22 2 = nI len ∧ ∀ i, i < len → 33 ≤ c i ∧ c i ≤ 126 ∧ X 28 i = nI (c i)
theorem PD2_of {X : XM} {len : Nat} {c : Nat → Nat} (h : PD1 X len c) : PD2 X len c := ⟨h.1, h.2.2.1, fun i hi => ⟨(h.2.2.2 i hi).1, (h.2.2.2 i hi).2.1, (h.2.2.2 i hi).2.2.2⟩⟩
theorem q_letter2 {X : XM} {len i : Nat} {c : Nat → Nat} (h : PD2 X len c) (h3 : X 22 3 = nI i) (hi : i < 2 ^ 31) : fX9_letter X = some (nI (ltN c len i), X) := by
  obtain ⟨l1, l3, l4⟩ := h
  unfold fX9_letter ltN
  rw [l3, h3]
  by_cases d : i < len
  · rw [if_neg (by rw [nI_leI (by omega) (by omega)]; omega), zd_ok (vp_in_nI (by omega) (by decide)), nI_clampN (by omega), if_pos d, (l4 i d).2.2]
  · rw [if_pos (by rw [nI_leI (by omega) (by omega)]; omega), if_neg d]
    rfl
theorem lt2_31 {X : XM} {len : Nat} {c : Nat → Nat} (h : PD2 X len c) (i : Nat) : ltN c len i < 2 ^ 31 := by
  unfold ltN
  split
  · next hi => have := (h.2.2 i hi).2.1; omega
  · decide
def PSv (X : XM) (a : Nat) (v : Int32) (k : Nat) (D : Nat → Int32) : XM := srw (srw X 22 (fun j => if j = 3 then nI a else if j = 4 then v else if j = 5 then nI k else X 22 j)) 32 D
def PS (X : XM) (a : Nat) (w : Bool) (k : Nat) (D : Nat → Int32) : XM := PSv X a (bI w) k D
variable {X : XM} {len : Nat} {c : Nat → Nat}
theorem PS_3 {a k : Nat} {w : Bool} {D : Nat → Int32} : PS X a w k D 22 3 = nI a := rfl
theorem PS_4 {a k : Nat} {w : Bool} {D : Nat → Int32} : PS X a w k D 22 4 = bI w := rfl
theorem PS_5 {a k : Nat} {w : Bool} {D : Nat → Int32} : PS X a w k D 22 5 = nI k := rfl
theorem PS_2 {a k : Nat} {w : Bool} {D : Nat → Int32} : PS X a w k D 22 2 = X 22 2 := rfl
theorem PS_32 {a k : Nat} {w : Bool} {D : Nat → Int32} : PS X a w k D 32 = D := by
  unfold PS PSv
  exact srw_s
theorem PS_r {a k : Nat} {w : Bool} {D : Nat → Int32} {r : Nat} (h1 : r ≠ 22) (h2 : r ≠ 32) : PS X a w k D r = X r := by
  unfold PS PSv
  rw [srw_n h2, srw_n h1]
theorem PS_xa {a b k : Nat} {w : Bool} {D : Nat → Int32} : xup (PS X a w k D) 22 3 (nI b) = PS X b w k D := by
  rw [xup_eq]
  unfold PS PSv
  rw [srw_n (by decide), srw_s, srw_comm (by decide), srw_ss]
  congr 2
  funext j
  unfold upd
  dsimp only
  by_cases h : j = 3
  · rw [if_pos h, if_pos h]
  · rw [if_neg h, if_neg h, if_neg h]
theorem PSv_5 {a k : Nat} {v : Int32} {D : Nat → Int32} : PSv X a v k D 22 5 = nI k := rfl
theorem PSv_3 {a k : Nat} {v : Int32} {D : Nat → Int32} : PSv X a v k D 22 3 = nI a := rfl
theorem PSv_r {a k : Nat} {v : Int32} {D : Nat → Int32} {r : Nat} (h1 : r ≠ 22) (h2 : r ≠ 32) : PSv X a v k D r = X r := by
  unfold PSv
  rw [srw_n h2, srw_n h1]
theorem PSv_xw {a k : Nat} {w : Int32} {v : Bool} {D : Nat → Int32} : xup (PSv X a w k D) 22 4 (bI v) = PS X a v k D := by
  rw [xup_eq]
  unfold PS PSv
  rw [srw_n (by decide), srw_s, srw_comm (by decide), srw_ss]
  congr 2
  funext j
  unfold upd
  dsimp only
  by_cases h : j = 4
  · rw [if_pos h, if_neg (by omega), if_pos h]
  · rw [if_neg h, if_neg h, if_neg h]
theorem PS_xw {a k : Nat} {w v : Bool} {D : Nat → Int32} : xup (PS X a w k D) 22 4 (bI v) = PS X a v k D := PSv_xw
theorem PSv_xw1 {a k : Nat} {w : Int32} {D : Nat → Int32} : xup (PSv X a w k D) 22 4 1 = PS X a true k D := PSv_xw (v := true)
theorem PSv_xw0 {a k : Nat} {w : Int32} {D : Nat → Int32} : xup (PSv X a w k D) 22 4 0 = PS X a false k D := PSv_xw (v := false)
theorem PS_xw1 {a k : Nat} {w : Bool} {D : Nat → Int32} : xup (PS X a w k D) 22 4 1 = PS X a true k D := PS_xw (v := true)
theorem PS_xw0 {a k : Nat} {w : Bool} {D : Nat → Int32} : xup (PS X a w k D) 22 4 0 = PS X a false k D := PS_xw (v := false)
theorem PS_xk {a b k : Nat} {w : Bool} {D : Nat → Int32} : xup (PS X a w k D) 22 5 (nI b) = PS X a w b D := by
  rw [xup_eq]
  unfold PS PSv
  rw [srw_n (by decide), srw_s, srw_comm (by decide), srw_ss]
  congr 2
  funext j
  unfold upd
  dsimp only
  by_cases h : j = 5
  · rw [if_pos h, if_neg (by omega), if_neg (by omega), if_pos h]
  · rw [if_neg h, if_neg h, if_neg h]
theorem PS_xd {a k j : Nat} {w : Bool} {D : Nat → Int32} {v : Int32} : xup (PS X a w k D) 32 j v = PS X a w k (upd D j v) := by
  rw [xup_eq]
  unfold PS PSv
  rw [srw_s, srw_ss]
theorem PS_pd {a k : Nat} {w : Bool} {D : Nat → Int32} (h : PD2 X len c) : PD2 (PS X a w k D) len c := ⟨h.1, h.2.1, fun i hi => by rw [PS_r (by decide) (by decide)]; exact h.2.2 i hi⟩
theorem PSv_pd {a k : Nat} {v : Int32} {D : Nat → Int32} (h : PD2 X len c) : PD2 (PSv X a v k D) len c := ⟨h.1, h.2.1, fun i hi => by rw [PSv_r (by decide) (by decide)]; exact h.2.2 i hi⟩
theorem n0I (a : Nat) : nI a + 0 = nI a := nI_add a 0
theorem q_let {a k : Nat} {w : Bool} {D : Nat → Int32} (h : PD2 X len c) (ha : a < 2 ^ 31) : fX9_letter (PS X a w k D) = some (nI (ltN c len a), PS X a w k D) := by
  rw [q_letter2 (PS_pd h) PS_3 ha]
theorem q_letv {a k : Nat} {v : Int32} {D : Nat → Int32} (h : PD2 X len c) (ha : a < 2 ^ 31) : fX9_letter (PSv X a v k D) = some (nI (ltN c len a), PSv X a v k D) := by
  rw [q_letter2 (PSv_pd h) PSv_3 ha]
theorem q_inD {n : Nat} {Y : XM} (hn : n < 2 ^ 31) : fX9_in (nI n) 48 57 Y = some (bI (dgB n), Y) := by
  rw [q_in]
  unfold dgB
  have e1 : nI n < 48 ↔ n < 48 := nI_ltI (b := 48) hn (by decide)
  have e2 : 57 < nI n ↔ 57 < n := nI_ltI (a := 57) (by decide) hn
  by_cases q : n < 48 ∨ 57 < n
  · rw [if_pos (q.imp e1.2 e2.2)]
    rcases q with q | q
    · rw [decide_eq_false (by omega), Bool.false_and]; rfl
    · rw [decide_eq_false (show ¬ n ≤ 57 by omega), Bool.and_false]; rfl
  · rw [if_neg (fun w => q (w.imp e1.1 e2.1)), decide_eq_true (show 48 ≤ n by omega), decide_eq_true (show n ≤ 57 by omega)]
    rfl
theorem q_digF {a k : Nat} {D : Nat → Int32} (h : PD2 X len c) (ha : a < 2 ^ 31) : fX9_digit (PS X a false k D) = some (nI (ltN c len a) - 48, PS X a false k D) := by
  unfold fX9_digit
  rw [PS_4, if_pos (show bI false = 0 from rfl), PS_xw0, zl_ok, q_let h ha, zi_ok, zl_ok, PS_4, if_pos (show bI false = 0 from rfl), PS_3, n0I, PS_xa, zl_ok]
theorem q_digT {a k : Nat} {D : Nat → Int32} (h : PD2 X len c) (ha : a < 2 ^ 31) : fX9_digit (PS X a true k D) = some (nI (ltN c len a) - 48, if dgB (ltN c len a) = true then PS X (a + 1) true k D else PS X a false k D) := by
  unfold fX9_digit
  rw [PS_4, if_neg (show ¬ bI true = 0 by decide), q_let h ha, zi_ok, q_inD (lt2_31 h a), zi_ok]
  cases hd : dgB (ltN c len a)
  · rw [if_pos (show bI false = 0 from rfl), if_neg Bool.false_ne_true, PS_xw0, zl_ok, q_let h ha, zi_ok, zl_ok, PS_4, if_pos (show bI false = 0 from rfl), PS_3, n0I, PS_xa, zl_ok]
  · rw [if_neg (show ¬ bI true = 0 by decide), if_pos rfl, PS_xw1, zl_ok, q_let h ha, zi_ok, zl_ok, PS_4, if_neg (show ¬ bI true = 0 by decide), PS_3, nI_1, PS_xa, zl_ok]
theorem q_sgnF {a k : Nat} {D : Nat → Int32} {v : Int32} : fX9_hasSign v (PS X a false k D) = some (0, PS X a false k D) := by
  unfold fX9_hasSign
  rw [PS_4, if_pos (show bI false = 0 from rfl), PS_3, n0I, PS_xa, zl_ok]
theorem q_sgnT {a k s : Nat} {D : Nat → Int32} {v : Int32} (h : PD2 X len c) (ha : a < 2 ^ 31) (hv : v = nI s) (hs : s < 2 ^ 31) : fX9_hasSign v (PS X a true k D) = if ltN c len a = s then some (1, PS X (a + 1) true k D) else some (0, PS X a true k D) := by
  unfold fX9_hasSign
  rw [PS_4, if_neg (show ¬ bI true = 0 by decide), q_let h ha, zi_ok, hv, PS_3]
  by_cases d : ltN c len a = s
  · rw [if_pos (by rw [d]), if_pos d, nI_1, PS_xa, zl_ok]
  · rw [if_neg (nne (lt2_31 h a) hs d), if_neg d, n0I, PS_xa, zl_ok]
/-- an order's four numbers -/
def odN (L : Nat → Nat) (a j : Nat) : Int32 :=
  if j = 0 then nI (L a)
  else if j = 1 then (if L a = 112 ∨ L a = 109 then 0 else nI (L (a + 1)) - 48)
  else if j = 2 then (if L a = 43 then (if L (a + 1 + 1) = 119 then nI (L (a + 1 + 1 + 1)) - 48 else 1) else if L a = 45 then nI (L (a + 1 + 1 + 1)) - 48 else if L a = 114 then nI (L (a + 1 + 1)) - 48 else 0)
  else (if L a = 43 then (if L (a + 1 + 1) = 119 then (if L (a + 1 + 1 + 1 + 1) = 33 then 1 else 0) else if L (a + 1 + 1) = 33 then 1 else 0) else 0)
theorem od0 {L : Nat → Nat} {a : Nat} : odN L a 0 = nI (L a) := rfl
theorem od1 {L : Nat → Nat} {a : Nat} : odN L a 1 = (if L a = 112 ∨ L a = 109 then 0 else nI (L (a + 1)) - 48) := rfl
theorem od2 {L : Nat → Nat} {a : Nat} : odN L a 2 = (if L a = 43 then (if L (a + 1 + 1) = 119 then nI (L (a + 1 + 1 + 1)) - 48 else 1) else if L a = 45 then nI (L (a + 1 + 1 + 1)) - 48 else if L a = 114 then nI (L (a + 1 + 1)) - 48 else 0) := rfl
theorem od3 {L : Nat → Nat} {a : Nat} : odN L a 3 = (if L a = 43 then (if L (a + 1 + 1) = 119 then (if L (a + 1 + 1 + 1 + 1) = 33 then 1 else 0) else if L (a + 1 + 1) = 33 then 1 else 0) else 0) := rfl
/-- the four numbers stand, the ones before are kept -/
def OD (D D' : Nat → Int32) (k : Nat) (o : Nat → Int32) : Prop := (∀ j, j < 4 → D' (4 * k + j) = o j) ∧ ∀ i, i < 4 * k → D' i = D i
theorem OD_upd {D : Nat → Int32} {k : Nat} {o : Nat → Int32} {v0 v1 v2 v3 : Int32} (h0 : v0 = o 0) (h1 : v1 = o 1) (h2 : v2 = o 2) (h3 : v3 = o 3) {D1 D2 D3 D4 : Nat → Int32} (e1 : ∀ i, i ≠ 4 * k → D1 i = D i) (e1' : D1 (4 * k) = v0) (e2 : D2 = upd D1 (4 * k + 1) v1) (e3 : ∀ i, i ≠ 4 * k + 2 → D3 i = D2 i) (e3' : D3 (4 * k + 2) = v2) (e4 : D4 = upd D3 (4 * k + 3) v3) : OD D D4 k o := by
  subst e4 e2
  refine ⟨fun j hj => ?_, fun i hi => ?_⟩
  · match j, hj with
    | 0, _ => rw [pk_un (by omega), e3 _ (by omega), pk_un (by omega), ← h0]; exact e1'
    | 1, _ => rw [pk_un (by omega), e3 _ (by omega), pk_us, ← h1]
    | 2, _ => rw [pk_un (by omega), e3', ← h2]
    | 3, _ => rw [pk_us, ← h3]
  · rw [pk_un (by omega), e3 _ (by omega), pk_un (by omega), e1 _ (by omega)]
theorem q_readsOrder (h : PD2 X len c) {a k : Nat} {w : Int32} {D : Nat → Int32} (ha : a ≤ len) (hk : k ≤ 41) : ∃ D', fX9_readsOrder (PSv X a w k D) = some (PS X (oeN (ltN c len) a).2 (oeN (ltN c len) a).1 (if (oeN (ltN c len) a).1 = true then k + 1 else k) D') ∧ ((oeN (ltN c len) a).1 = true → OD D D' k (odN (ltN c len) a)) := by
  have hl := h.1
  have z : ∀ i, ltN c len i < 2 ^ 31 := lt2_31 h
  have e4 : (4 : Int32) * nI k = nI (4 * k) := pk_mul 4 k
  have p1 : nI (4 * k) + 1 = nI (4 * k + 1) := nI_add _ 1
  have p2 : nI (4 * k) + 2 = nI (4 * k + 2) := nI_add _ 2
  have p3 : nI (4 * k) + 3 = nI (4 * k + 3) := nI_add _ 3
  have c0 : (nI (4 * k)).toNatClampNeg = 4 * k := nI_clampN (by omega)
  have c1 : (nI (4 * k + 1)).toNatClampNeg = 4 * k + 1 := nI_clampN (by omega)
  have c2 : (nI (4 * k + 2)).toNatClampNeg = 4 * k + 2 := nI_clampN (by omega)
  have c3 : (nI (4 * k + 3)).toNatClampNeg = 4 * k + 3 := nI_clampN (by omega)
  have v0 : ∀ x : Option XM, zd (nI (4 * k)) 168 x = x := fun x => zd_ok (vp_in_nI (by omega) (by decide))
  have v1 : ∀ x : Option XM, zd (nI (4 * k + 1)) 168 x = x := fun x => zd_ok (vp_in_nI (by omega) (by decide))
  have v2 : ∀ x : Option XM, zd (nI (4 * k + 2)) 168 x = x := fun x => zd_ok (vp_in_nI (by omega) (by decide))
  have v3 : ∀ x : Option XM, zd (nI (4 * k + 3)) 168 x = x := fun x => zd_ok (vp_in_nI (by omega) (by decide))
  have bT : ¬ bI true = 0 := by decide
  have bF : bI false = 0 := rfl
  have s119 : (119 : Int32) = nI 119 := rfl
  have s33 : (33 : Int32) = nI 33 := rfl
  have s46 : (46 : Int32) = nI 46 := rfl
  have l0 := z a
  have u2 : ∀ (E : Nat → Int32) (v : Int32), upd (upd E (4 * k + 2) v) (4 * k + 2) (upd E (4 * k + 2) v (4 * k + 2)) = upd E (4 * k + 2) v := fun E v => by rw [pk_us, fa_upd_twice]
  have n1 : ∀ {D1 : Nat → Int32} {v : Int32}, ∀ i, i ≠ 4 * k → upd D1 (4 * k) v i = D1 i := fun i hi => pk_un hi
  have n2 : ∀ {D1 : Nat → Int32} {v : Int32}, ∀ i, i ≠ 4 * k + 2 → upd D1 (4 * k + 2) v i = D1 i := fun i hi => pk_un hi
  have m2 : ∀ {D1 : Nat → Int32} {v v' : Int32}, ∀ i, i ≠ 4 * k + 2 → upd (upd D1 (4 * k + 2) v) (4 * k + 2) v' i = D1 i := fun i hi => by rw [pk_un hi, pk_un hi]
  unfold fX9_readsOrder
  rw [PSv_5, e4, zl_ok, q_letv h (by omega), zi_ok]
  by_cases c43 : ltN c len a = 43
  · have la : a < len := lt_pos (show ltN c len a ≠ 0 by omega)
    rw [c43, if_pos (show nI 43 = (43 : Int32) from rfl), PSv_xw1, zl_ok, PS_4, if_neg bT, PS_3, nI_1, PS_xa, zl_ok, v0, c0, PS_xd, zl_ok, q_digT h (by omega), zi_ok, p1, v1, c1]
    by_cases d1 : dgB (ltN c len (a + 1)) = true
    · rw [if_pos d1, PS_xd, zl_ok, q_sgnT h (by omega) s119 (by decide)]
      by_cases g2 : ltN c len (a + 1 + 1) = 119
      · rw [if_pos g2, zi_ok, if_neg (show ¬ (1 : Int32) = 0 by decide), q_digT h (by omega), zi_ok, p2, v2, c2]
        by_cases d3 : dgB (ltN c len (a + 1 + 1 + 1)) = true
        · rw [if_pos d3, PS_xd, zl_ok, v2, v2, PS_32, PS_xd, zl_ok, q_sgnT h (by omega) s33 (by decide)]
          by_cases g4 : ltN c len (a + 1 + 1 + 1 + 1) = 33
          · have eo : oeN (ltN c len) a = (true, a + 1 + 1 + 1 + 1 + 1) := by unfold oeN; rw [if_pos c43, if_pos d1, if_pos g2, if_pos d3, if_pos g4]
            rw [if_pos g4, zi_ok, if_neg (show ¬ (1 : Int32) = 0 by decide), p3, v3, c3, PS_xd, zl_ok, PS_4, if_neg bT, PS_5, nI_1, PS_xk, zl_ok, eo]
            refine ⟨_, rfl, fun _ => OD_upd (v0 := 43) (v1 := nI (ltN c len (a + 1)) - 48) (v2 := nI (ltN c len (a + 1 + 1 + 1)) - 48) (v3 := 1) ?_ ?_ ?_ ?_ n1 pk_us rfl m2 (by rw [pk_us, pk_us]) rfl⟩
            · rw [od0, c43]; rfl
            · rw [od1, if_neg (by omega)]
            · rw [od2, if_pos c43, if_pos g2]
            · rw [od3, if_pos c43, if_pos g2, if_pos g4]
          · have eo : oeN (ltN c len) a = (true, a + 1 + 1 + 1 + 1) := by unfold oeN; rw [if_pos c43, if_pos d1, if_pos g2, if_pos d3, if_neg g4]
            rw [if_neg g4, zi_ok, if_pos rfl, p3, v3, c3, PS_xd, zl_ok, PS_4, if_neg bT, PS_5, nI_1, PS_xk, zl_ok, eo]
            refine ⟨_, rfl, fun _ => OD_upd (v0 := 43) (v1 := nI (ltN c len (a + 1)) - 48) (v2 := nI (ltN c len (a + 1 + 1 + 1)) - 48) (v3 := 0) ?_ ?_ ?_ ?_ n1 pk_us rfl m2 (by rw [pk_us, pk_us]) rfl⟩
            · rw [od0, c43]; rfl
            · rw [od1, if_neg (by omega)]
            · rw [od2, if_pos c43, if_pos g2]
            · rw [od3, if_pos c43, if_pos g2, if_neg g4]
        · have eo : oeN (ltN c len) a = (false, a + 1 + 1 + 1) := by unfold oeN; rw [if_pos c43, if_pos d1, if_pos g2, if_neg d3]
          rw [if_neg d3, PS_xd, zl_ok, v2, v2, PS_32, PS_xd, zl_ok, q_sgnF, zi_ok, if_pos rfl, p3, v3, c3, PS_xd, zl_ok, PS_4, if_pos bF, PS_5, n0I, PS_xk, zl_ok, eo]
          exact ⟨_, rfl, fun q => absurd q Bool.false_ne_true⟩
      · rw [if_neg g2, zi_ok, if_pos rfl, p2, v2, c2, PS_xd, zl_ok, v2, v2, PS_32, PS_xd, zl_ok, q_sgnT h (by omega) s33 (by decide)]
        by_cases g3 : ltN c len (a + 1 + 1) = 33
        · have eo : oeN (ltN c len) a = (true, a + 1 + 1 + 1) := by unfold oeN; rw [if_pos c43, if_pos d1, if_neg g2, if_pos g3]
          rw [if_pos g3, zi_ok, if_neg (show ¬ (1 : Int32) = 0 by decide), p3, v3, c3, PS_xd, zl_ok, PS_4, if_neg bT, PS_5, nI_1, PS_xk, zl_ok, eo]
          refine ⟨_, rfl, fun _ => OD_upd (v0 := 43) (v1 := nI (ltN c len (a + 1)) - 48) (v2 := 1) (v3 := 1) ?_ ?_ ?_ ?_ n1 pk_us rfl m2 (by rw [pk_us, pk_us]) rfl⟩
          · rw [od0, c43]; rfl
          · rw [od1, if_neg (by omega)]
          · rw [od2, if_pos c43, if_neg g2]
          · rw [od3, if_pos c43, if_neg g2, if_pos g3]
        · have eo : oeN (ltN c len) a = (true, a + 1 + 1) := by unfold oeN; rw [if_pos c43, if_pos d1, if_neg g2, if_neg g3]
          rw [if_neg g3, zi_ok, if_pos rfl, p3, v3, c3, PS_xd, zl_ok, PS_4, if_neg bT, PS_5, nI_1, PS_xk, zl_ok, eo]
          refine ⟨_, rfl, fun _ => OD_upd (v0 := 43) (v1 := nI (ltN c len (a + 1)) - 48) (v2 := 1) (v3 := 0) ?_ ?_ ?_ ?_ n1 pk_us rfl m2 (by rw [pk_us, pk_us]) rfl⟩
          · rw [od0, c43]; rfl
          · rw [od1, if_neg (by omega)]
          · rw [od2, if_pos c43, if_neg g2]
          · rw [od3, if_pos c43, if_neg g2, if_neg g3]
    · have eo : oeN (ltN c len) a = (false, a + 1) := by unfold oeN; rw [if_pos c43, if_neg d1]
      rw [if_neg d1, PS_xd, zl_ok, q_sgnF, zi_ok, if_pos rfl, p2, v2, c2, PS_xd, zl_ok, v2, v2, PS_32, PS_xd, zl_ok, q_sgnF, zi_ok, if_pos rfl, p3, v3, c3, PS_xd, zl_ok, PS_4, if_pos bF, PS_5, n0I, PS_xk, zl_ok, eo]
      exact ⟨_, rfl, fun q => absurd q Bool.false_ne_true⟩
  rw [if_neg (show ¬ nI (ltN c len a) = (43 : Int32) from nne (m := 43) (z a) (by decide) c43)]
  by_cases c45 : ltN c len a = 45
  · have la : a < len := lt_pos (show ltN c len a ≠ 0 by omega)
    rw [c45, if_pos (show nI 45 = (45 : Int32) from rfl), PSv_xw1, zl_ok, PS_4, if_neg bT, PS_3, nI_1, PS_xa, zl_ok, v0, c0, PS_xd, zl_ok, q_digT h (by omega), zi_ok, p1, v1, c1]
    by_cases d1 : dgB (ltN c len (a + 1)) = true
    · rw [if_pos d1, PS_xd, zl_ok, p2, v2, c2, PS_xd, zl_ok, q_sgnT h (by omega) s46 (by decide)]
      by_cases g2 : ltN c len (a + 1 + 1) = 46
      · rw [if_pos g2, zi_ok, zb_1, PS_xw1, zl_ok, q_digT h (by omega), zi_ok, v2]
        by_cases d3 : dgB (ltN c len (a + 1 + 1 + 1)) = true
        · have eo : oeN (ltN c len) a = (true, a + 1 + 1 + 1 + 1) := by unfold oeN; rw [if_neg c43, if_pos c45, if_pos d1, if_pos g2, if_pos d3]
          rw [if_pos d3, PS_xd, zl_ok, p3, v3, c3, PS_xd, zl_ok, PS_4, if_neg bT, PS_5, nI_1, PS_xk, zl_ok, eo]
          refine ⟨_, rfl, fun _ => OD_upd (v0 := 45) (v1 := nI (ltN c len (a + 1)) - 48) (v2 := nI (ltN c len (a + 1 + 1 + 1)) - 48) (v3 := 0) ?_ ?_ ?_ ?_ n1 pk_us rfl m2 pk_us rfl⟩
          · rw [od0, c45]; rfl
          · rw [od1, if_neg (by omega)]
          · rw [od2, if_neg c43, if_pos c45]
          · rw [od3, if_neg c43]
        · have eo : oeN (ltN c len) a = (false, a + 1 + 1 + 1) := by unfold oeN; rw [if_neg c43, if_pos c45, if_pos d1, if_pos g2, if_neg d3]
          rw [if_neg d3, PS_xd, zl_ok, p3, v3, c3, PS_xd, zl_ok, PS_4, if_pos bF, PS_5, n0I, PS_xk, zl_ok, eo]
          exact ⟨_, rfl, fun q => absurd q Bool.false_ne_true⟩
      · have eo : oeN (ltN c len) a = (false, a + 1 + 1) := by unfold oeN; rw [if_neg c43, if_pos c45, if_pos d1, if_neg g2]
        rw [if_neg g2, zi_ok, zb_0, PS_xw0, zl_ok, q_digF h (by omega), zi_ok, v2, PS_xd, zl_ok, p3, v3, c3, PS_xd, zl_ok, PS_4, if_pos bF, PS_5, n0I, PS_xk, zl_ok, eo]
        exact ⟨_, rfl, fun q => absurd q Bool.false_ne_true⟩
    · have eo : oeN (ltN c len) a = (false, a + 1) := by unfold oeN; rw [if_neg c43, if_pos c45, if_neg d1]
      rw [if_neg d1, PS_xd, zl_ok, p2, v2, c2, PS_xd, zl_ok, q_sgnF, zi_ok, zb_0, PS_xw0, zl_ok, q_digF h (by omega), zi_ok, v2, PS_xd, zl_ok, p3, v3, c3, PS_xd, zl_ok, PS_4, if_pos bF, PS_5, n0I, PS_xk, zl_ok, eo]
      exact ⟨_, rfl, fun q => absurd q Bool.false_ne_true⟩
  rw [if_neg (show ¬ nI (ltN c len a) = (45 : Int32) from nne (m := 45) (z a) (by decide) c45)]
  by_cases c112 : ltN c len a = 112
  · have eo : oeN (ltN c len) a = (true, a + 1) := by unfold oeN; rw [if_neg c43, if_neg c45, if_pos c112]
    rw [c112, if_pos (show nI 112 = (112 : Int32) from rfl), PSv_xw1, zl_ok, PS_4, if_neg bT, PS_3, nI_1, PS_xa, zl_ok, v0, c0, PS_xd, zl_ok, p1, v1, c1, PS_xd, zl_ok, p2, v2, c2, PS_xd, zl_ok, v2, v2, PS_32, PS_xd, zl_ok, p3, v3, c3, PS_xd, zl_ok, PS_4, if_neg bT, PS_5, nI_1, PS_xk, zl_ok, eo]
    refine ⟨_, rfl, fun _ => OD_upd (v0 := 112) (v1 := 0) (v2 := 0) (v3 := 0) ?_ ?_ ?_ ?_ n1 pk_us rfl m2 (by rw [pk_us, pk_us]) rfl⟩
    · rw [od0, c112]; rfl
    · rw [od1, if_pos (Or.inl c112)]
    · rw [od2, if_neg c43, if_neg c45, if_neg (by omega)]
    · rw [od3, if_neg c43]
  rw [if_neg (show ¬ nI (ltN c len a) = (112 : Int32) from nne (m := 112) (z a) (by decide) c112)]
  by_cases c109 : ltN c len a = 109
  · have eo : oeN (ltN c len) a = (true, a + 1) := by unfold oeN; rw [if_neg c43, if_neg c45, if_neg c112, if_pos c109]
    rw [c109, if_pos (show nI 109 = (109 : Int32) from rfl), PSv_xw1, zl_ok, PS_4, if_neg bT, PS_3, nI_1, PS_xa, zl_ok, v0, c0, PS_xd, zl_ok, p1, v1, c1, PS_xd, zl_ok, p2, v2, c2, PS_xd, zl_ok, v2, v2, PS_32, PS_xd, zl_ok, p3, v3, c3, PS_xd, zl_ok, PS_4, if_neg bT, PS_5, nI_1, PS_xk, zl_ok, eo]
    refine ⟨_, rfl, fun _ => OD_upd (v0 := 109) (v1 := 0) (v2 := 0) (v3 := 0) ?_ ?_ ?_ ?_ n1 pk_us rfl m2 (by rw [pk_us, pk_us]) rfl⟩
    · rw [od0, c109]; rfl
    · rw [od1, if_pos (Or.inr c109)]
    · rw [od2, if_neg c43, if_neg c45, if_neg (by omega)]
    · rw [od3, if_neg c43]
  rw [if_neg (show ¬ nI (ltN c len a) = (109 : Int32) from nne (m := 109) (z a) (by decide) c109)]
  by_cases c114 : ltN c len a = 114
  · have la : a < len := lt_pos (show ltN c len a ≠ 0 by omega)
    rw [c114, if_pos (show nI 114 = (114 : Int32) from rfl), PSv_xw1, zl_ok, PS_4, if_neg bT, PS_3, nI_1, PS_xa, zl_ok, v0, c0, PS_xd, zl_ok, q_digT h (by omega), zi_ok, p1, v1, c1]
    by_cases d1 : dgB (ltN c len (a + 1)) = true
    · rw [if_pos d1, PS_xd, zl_ok, p2, v2, c2, PS_xd, zl_ok, q_digT h (by omega), zi_ok, v2]
      by_cases d2 : dgB (ltN c len (a + 1 + 1)) = true
      · have eo : oeN (ltN c len) a = (true, a + 1 + 1 + 1) := by unfold oeN; rw [if_neg c43, if_neg c45, if_neg c112, if_neg c109, if_pos c114, if_pos d1, if_pos d2]
        rw [if_pos d2, PS_xd, zl_ok, p3, v3, c3, PS_xd, zl_ok, PS_4, if_neg bT, PS_5, nI_1, PS_xk, zl_ok, eo]
        refine ⟨_, rfl, fun _ => OD_upd (v0 := 114) (v1 := nI (ltN c len (a + 1)) - 48) (v2 := nI (ltN c len (a + 1 + 1)) - 48) (v3 := 0) ?_ ?_ ?_ ?_ n1 pk_us rfl m2 pk_us rfl⟩
        · rw [od0, c114]; rfl
        · rw [od1, if_neg (by omega)]
        · rw [od2, if_neg c43, if_neg c45, if_pos c114]
        · rw [od3, if_neg c43]
      · have eo : oeN (ltN c len) a = (false, a + 1 + 1) := by unfold oeN; rw [if_neg c43, if_neg c45, if_neg c112, if_neg c109, if_pos c114, if_pos d1, if_neg d2]
        rw [if_neg d2, PS_xd, zl_ok, p3, v3, c3, PS_xd, zl_ok, PS_4, if_pos bF, PS_5, n0I, PS_xk, zl_ok, eo]
        exact ⟨_, rfl, fun q => absurd q Bool.false_ne_true⟩
    · have eo : oeN (ltN c len) a = (false, a + 1) := by unfold oeN; rw [if_neg c43, if_neg c45, if_neg c112, if_neg c109, if_pos c114, if_neg d1]
      rw [if_neg d1, PS_xd, zl_ok, p2, v2, c2, PS_xd, zl_ok, q_digF h (by omega), zi_ok, v2, PS_xd, zl_ok, p3, v3, c3, PS_xd, zl_ok, PS_4, if_pos bF, PS_5, n0I, PS_xk, zl_ok, eo]
      exact ⟨_, rfl, fun q => absurd q Bool.false_ne_true⟩
  · have eo : oeN (ltN c len) a = (false, a) := by unfold oeN; rw [if_neg c43, if_neg c45, if_neg c112, if_neg c109, if_neg c114]
    rw [if_neg (show ¬ nI (ltN c len a) = (114 : Int32) from nne (m := 114) (z a) (by decide) c114), PSv_xw0, zl_ok, PS_4, if_pos bF, PS_3, n0I, PS_xa, zl_ok, v0, c0, PS_xd, zl_ok, q_digF h (by omega), zi_ok, p1, v1, c1, PS_xd, zl_ok, p2, v2, c2, PS_xd, zl_ok, v2, v2, PS_32, PS_xd, zl_ok, p3, v3, c3, PS_xd, zl_ok, PS_4, if_pos bF, PS_5, n0I, PS_xk, zl_ok, eo]
    exact ⟨_, rfl, fun q => absurd q Bool.false_ne_true⟩
/-- K orders, the first at a, the last at the text's end -/
def Chn (L : Nat → Nat) (len : Nat) : Nat → Nat → Prop
  | 0, _ => False
  | K + 1, a => (oeN L a).1 = true ∧ ((K = 0 ∧ len ≤ (oeN L a).2) ∨ ((oeN L a).2 < len ∧ L (oeN L a).2 = 59 ∧ Chn L len K ((oeN L a).2 + 1)))
def OrT (L : Nat → Nat) (D : Nat → Int32) : Nat → Nat → Nat → Prop
  | 0, _, _ => True
  | K + 1, k, a => (∀ j, j < 4 → D (4 * k + j) = odN L a j) ∧ OrT L D K (k + 1) ((oeN L a).2 + 1)
theorem oe_up (L : Nat → Nat) (a : Nat) : a ≤ (oeN L a).2 ∧ (oeN L a).2 ≤ a + 5 ∧ ((oeN L a).1 = true → a < (oeN L a).2 ∧ L a ≠ 0) := by
  have bad : ∀ e : Nat, a ≤ e → e ≤ a + 5 → oeN L a = (false, e) → a ≤ (oeN L a).2 ∧ (oeN L a).2 ≤ a + 5 ∧ ((oeN L a).1 = true → a < (oeN L a).2 ∧ L a ≠ 0) := fun e h1 h2 h => by rw [h]; exact ⟨h1, h2, fun q => absurd q Bool.false_ne_true⟩
  have good : ∀ e : Nat, a < e → e ≤ a + 5 → L a ≠ 0 → oeN L a = (true, e) → a ≤ (oeN L a).2 ∧ (oeN L a).2 ≤ a + 5 ∧ ((oeN L a).1 = true → a < (oeN L a).2 ∧ L a ≠ 0) := fun e h1 h2 h3 h => by rw [h]; exact ⟨Nat.le_of_lt h1, h2, fun _ => ⟨h1, h3⟩⟩
  by_cases c43 : L a = 43
  · by_cases d1 : dgB (L (a + 1)) = true
    · by_cases g2 : L (a + 1 + 1) = 119
      · by_cases d3 : dgB (L (a + 1 + 1 + 1)) = true
        · by_cases g4 : L (a + 1 + 1 + 1 + 1) = 33
          · exact good (a + 1 + 1 + 1 + 1 + 1) (by omega) (by omega) (by omega) (by unfold oeN; rw [if_pos c43, if_pos d1, if_pos g2, if_pos d3, if_pos g4])
          · exact good (a + 1 + 1 + 1 + 1) (by omega) (by omega) (by omega) (by unfold oeN; rw [if_pos c43, if_pos d1, if_pos g2, if_pos d3, if_neg g4])
        · exact bad (a + 1 + 1 + 1) (by omega) (by omega) (by unfold oeN; rw [if_pos c43, if_pos d1, if_pos g2, if_neg d3])
      · by_cases g3 : L (a + 1 + 1) = 33
        · exact good (a + 1 + 1 + 1) (by omega) (by omega) (by omega) (by unfold oeN; rw [if_pos c43, if_pos d1, if_neg g2, if_pos g3])
        · exact good (a + 1 + 1) (by omega) (by omega) (by omega) (by unfold oeN; rw [if_pos c43, if_pos d1, if_neg g2, if_neg g3])
    · exact bad (a + 1) (by omega) (by omega) (by unfold oeN; rw [if_pos c43, if_neg d1])
  by_cases c45 : L a = 45
  · by_cases d1 : dgB (L (a + 1)) = true
    · by_cases g2 : L (a + 1 + 1) = 46
      · by_cases d3 : dgB (L (a + 1 + 1 + 1)) = true
        · exact good (a + 1 + 1 + 1 + 1) (by omega) (by omega) (by omega) (by unfold oeN; rw [if_neg c43, if_pos c45, if_pos d1, if_pos g2, if_pos d3])
        · exact bad (a + 1 + 1 + 1) (by omega) (by omega) (by unfold oeN; rw [if_neg c43, if_pos c45, if_pos d1, if_pos g2, if_neg d3])
      · exact bad (a + 1 + 1) (by omega) (by omega) (by unfold oeN; rw [if_neg c43, if_pos c45, if_pos d1, if_neg g2])
    · exact bad (a + 1) (by omega) (by omega) (by unfold oeN; rw [if_neg c43, if_pos c45, if_neg d1])
  by_cases c112 : L a = 112
  · exact good (a + 1) (by omega) (by omega) (by omega) (by unfold oeN; rw [if_neg c43, if_neg c45, if_pos c112])
  by_cases c109 : L a = 109
  · exact good (a + 1) (by omega) (by omega) (by omega) (by unfold oeN; rw [if_neg c43, if_neg c45, if_neg c112, if_pos c109])
  by_cases c114 : L a = 114
  · by_cases d1 : dgB (L (a + 1)) = true
    · by_cases d2 : dgB (L (a + 1 + 1)) = true
      · exact good (a + 1 + 1 + 1) (by omega) (by omega) (by omega) (by unfold oeN; rw [if_neg c43, if_neg c45, if_neg c112, if_neg c109, if_pos c114, if_pos d1, if_pos d2])
      · exact bad (a + 1 + 1) (by omega) (by omega) (by unfold oeN; rw [if_neg c43, if_neg c45, if_neg c112, if_neg c109, if_pos c114, if_pos d1, if_neg d2])
    · exact bad (a + 1) (by omega) (by omega) (by unfold oeN; rw [if_neg c43, if_neg c45, if_neg c112, if_neg c109, if_pos c114, if_neg d1])
  · exact bad a (by omega) (by omega) (by unfold oeN; rw [if_neg c43, if_neg c45, if_neg c112, if_neg c109, if_neg c114])
theorem nI_n6 {n : Nat} (h : n < 2 ^ 31) : ¬ nI n = -6 := fun q => nI_pos h (by rw [q]; decide)
/-- an order is read, and all behind it -/
theorem q_reads_14 (h : PD2 X len c) : ∀ (m n a k : Nat) (w : Int32) (D : Nat → Int32), a ≤ len → len < a + m → 2 * m ≤ n → 2 * k ≤ a → ∃ a' w' k' D', zv (fX9_readsOrder (PSv X a w k D)) (fX9_reads_14 n) = some (prN (ltN c len) len m a, PS X a' w' k' D') ∧ (prN (ltN c len) len m a = -6 → (∀ i, i < 4 * k → D' i = D i) ∧ ∃ K, k' = k + K ∧ 2 * k' ≤ len + 1 ∧ Chn (ltN c len) len K a ∧ OrT (ltN c len) D' K k a) := by
  have hl := h.1
  intro m
  induction m with
  | zero => intro n a k w D h1 h2; omega
  | succ m ih =>
    intro n a k w D h1 h2 h3 h4
    obtain ⟨j, rfl⟩ : ∃ j, n = j + 1 + 1 := ⟨n - 2, by omega⟩
    obtain ⟨D1, e1, o1⟩ := q_readsOrder h (a := a) (k := k) (w := w) (D := D) h1 (by omega)
    have hup := oe_up (ltN c len) a
    have ch : ∀ K, Chn (ltN c len) len (K + 1) a = ((oeN (ltN c len) a).1 = true ∧ ((K = 0 ∧ len ≤ (oeN (ltN c len) a).2) ∨ ((oeN (ltN c len) a).2 < len ∧ ltN c len (oeN (ltN c len) a).2 = 59 ∧ Chn (ltN c len) len K ((oeN (ltN c len) a).2 + 1)))) := fun K => rfl
    have ot : ∀ D K, OrT (ltN c len) D (K + 1) k a = ((∀ j, j < 4 → D (4 * k + j) = odN (ltN c len) a j) ∧ OrT (ltN c len) D K (k + 1) ((oeN (ltN c len) a).2 + 1)) := fun D K => rfl
    have pr : prN (ltN c len) len (m + 1) a = if (oeN (ltN c len) a).1 = true then (if len ≤ (oeN (ltN c len) a).2 then -6 else if ltN c len (oeN (ltN c len) a).2 = 59 then prN (ltN c len) len m ((oeN (ltN c len) a).2 + 1) else nI (oeN (ltN c len) a).2) else nI (oeN (ltN c len) a).2 := rfl
    rw [e1, zv_ok, pr]
    generalize oeN (ltN c len) a = oe at *
    obtain ⟨b, e⟩ := oe
    have u1 : a ≤ e := hup.1
    have u2 : e ≤ a + 5 := hup.2.1
    cases b
    · refine ⟨e, false, k, D1, ?_, fun q => absurd q ?_⟩
      · show fX9_reads_14 (j + 1 + 1) (PS X e false k D1) = some (nI e, PS X e false k D1)
        rw [fX9_reads_14, PS_4, if_pos (show bI false = 0 from rfl), PS_3]
      · exact nI_n6 (n := e) (by omega)
    · have hu := hup.2.2 rfl
      have u3 : a < e := hu.1
      have la : a < len := lt_pos hu.2
      have o2 := o1 rfl
      show ∃ a' w' k' D', fX9_reads_14 (j + 1 + 1) (PS X e true (k + 1) D1) = some ((if len ≤ e then -6 else if ltN c len e = 59 then prN (ltN c len) len m (e + 1) else nI e), PS X a' w' k' D') ∧ _
      rw [fX9_reads_14, PS_4, if_neg (show ¬ bI true = 0 by decide), PS_2, h.2.1, PS_3]
      by_cases d : len ≤ e
      · rw [if_pos (by rw [nI_leI (by omega) (by omega)]; exact d), if_pos d]
        exact ⟨e, true, k + 1, D1, rfl, fun _ => ⟨o2.2, 1, rfl, by omega, (ch 0).mpr ⟨rfl, Or.inl ⟨rfl, d⟩⟩, (ot D1 0).mpr ⟨o2.1, trivial⟩⟩⟩
      · rw [if_neg (by rw [nI_leI (by omega) (by omega)]; exact d), if_neg d, q_sgnT h (by omega) (show (59 : Int32) = nI 59 from rfl) (by decide)]
        by_cases g : ltN c len e = 59
        · rw [if_pos g, zi_ok, zb_1, PS_xw1, zl_ok, PS_4, if_neg (show ¬ bI true = 0 by decide), if_pos g]
          obtain ⟨a', w', k', D', i1, i2⟩ := ih (j + 1) (e + 1) (k + 1) (bI true) D1 (by omega) (by omega) (by omega) (by omega)
          refine ⟨a', w', k', D', i1, fun q => ?_⟩
          obtain ⟨i3, K, i4, i5, i6, i7⟩ := i2 q
          exact ⟨fun i hi => by rw [i3 i (by omega), o2.2 i hi], K + 1, by omega, i5, (ch K).mpr ⟨rfl, Or.inr ⟨by show e < len; omega, g, i6⟩⟩, (ot D' K).mpr ⟨fun q hq => by rw [i3 _ (by omega), o2.1 q hq], i7⟩⟩
        · rw [if_neg g, zi_ok, zb_0, PS_xw0, zl_ok, PS_4, if_pos (show bI false = 0 from rfl), fX9_reads_14, PS_4, if_pos (show bI false = 0 from rfl), PS_3, if_neg g]
          exact ⟨e, false, k + 1, D1, rfl, fun q => absurd q (nI_n6 (by omega))⟩
theorem q_reads (h : PD2 X len c) : ∃ a' w' k' D', fX9_reads X = some (prN (ltN c len) len 81 0, PS X a' w' k' D') ∧ (prN (ltN c len) len 81 0 = -6 → 2 * k' ≤ len + 1 ∧ Chn (ltN c len) len k' 0 ∧ OrT (ltN c len) D' k' 0 0) := by
  have hl := h.1
  have e : xup (xup X 22 3 0) 22 5 0 = PSv X 0 (X 22 4) 0 (X 32) := by
    rw [xup_eq, xup_eq, srw_ss, srw_s]
    unfold PSv
    have e32 : X 32 = srw X 22 (fun j => if j = 3 then nI 0 else if j = 4 then X 22 4 else if j = 5 then nI 0 else X 22 j) 32 := (srw_n (by decide)).symm
    rw [e32, srw_id]
    congr 1
    funext j
    unfold upd
    by_cases h5 : j = 5
    · rw [if_pos h5, if_neg (by omega), if_neg (by omega), if_pos h5]
      rfl
    · rw [if_neg h5]
      by_cases h3 : j = 3
      · rw [if_pos h3, if_pos h3]
        rfl
      · rw [if_neg h3, if_neg h3]
        by_cases h4 : j = 4
        · rw [if_pos h4, h4]
        · rw [if_neg h4, if_neg h5]
  unfold fX9_reads
  rw [zl_ok, zl_ok, e]
  obtain ⟨a', w', k', D', i1, i2⟩ := q_reads_14 h 81 fuel 0 0 (X 22 4) (X 32) (by omega) (by omega) (by have := fuel_ge; omega) (by omega)
  refine ⟨a', w', k', D', i1, fun q => ?_⟩
  obtain ⟨_, K, i4, i5, i6, i7⟩ := i2 q
  have ek : k' = K := by omega
  subst ek
  exact ⟨i5, i6, i7⟩
theorem op_fault (I : Base X) : ∃ r X1 X2, fX8_fault X = some (r, X1) ∧ fX9_fault X1 = some (r, X2) ∧ Base X2 ∧ Kp X X2 := by
  obtain ⟨len, c, h⟩ := pad_chars I
  have h' : PD2 (srw X 22 (upd (X 22) 0 0)) len c := by
    obtain ⟨h1, h2, h3, h4⟩ := h
    exact ⟨h1, by rw [srw_s, pk_un (by decide)]; exact h3, fun i hi => by rw [srw_n (by decide)]; exact ⟨(h4 i hi).1, (h4 i hi).2.1, (h4 i hi).2.2.2⟩⟩
  obtain ⟨a', w', k', D', i1, _⟩ := q_reads h'
  refine ⟨prN (ltN c len) len 81 0, X, PS (srw X 22 (upd (X 22) 0 0)) a' w' k' D', ?_, ?_, base_aux (base_ask I).1 (fun r a b => PS_r a (by omega)) rfl rfl, fun r a b => by rw [PS_r (by omega) (by omega), srw_n (by omega)]⟩
  · unfold fX8_fault
    rw [f_faultIndex h, zi_ok]
  · unfold fX9_fault
    rw [zl_ok, xup_eq, i1, zi_ok]
end RT
