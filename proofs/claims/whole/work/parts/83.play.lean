/-! PLAYING ON -/
section PY
theorem SIn_cong {X Y : XM} (h : SIn X) (e : ∀ r, 13 ≤ r → r ≤ 17 → Y r = X r) : SIn Y := by
  obtain ⟨s1, s2, s3⟩ := h
  refine ⟨by rw [e 16 (by decide) (by decide)]; exact s1, by rw [e 17 (by decide) (by decide)]; exact s2, ?_⟩
  rw [e 13 (by decide) (by decide)]
  rcases s3 with q | ⟨f, a, b, d⟩
  · exact Or.inl q
  · exact Or.inr ⟨f, a, b, SV_cong d e⟩
theorem TBA_mono {f g : Nat → Int32} (hs : sameR f g) (hq : ∀ q, q < 4 → gT g q ≤ gT f q) {X : XM} (h : TBA f X) : TBA g X := by
  intro i hi hb
  have key := h i hi (blB_all.2 fun q h4 => Nat.le_trans (blB_all.1 hb q h4) (hq q h4))
  have ev : Vi f i = Vi g i := VV_same hs 25 _ _ _ _
  have ew : Wi f i = Wi g i := WW_same hs 25 _ _ _ _
  rw [← ev, ← ew]
  exact key
theorem TBA_cong {f : Nat → Int32} {X Y : XM} (h : TBA f X) (e1 : Y 29 = X 29) (e2 : Y 30 = X 30) : TBA f Y := by
  unfold TBA
  rw [e1, e2]
  exact h
def bmN (f : Nat → Int32) : Nat := xun (bsI (cnB f (sptN f)) (mwV f (sptN f)) 21)
theorem bm_ok {f : Nat → Int32} (h : gok f) (hg : gmoves f ≠ 0) : f 5 = 0 ∧ bmN f < 21 ∧ bsI (cnB f (sptN f)) (mwV f (sptN f)) 21 = nI (bmN f) ∧ (gmoves f).testBit (bmN f) = true := by
  have h5 : f 5 = 0 := Classical.byContradiction fun q => hg (by unfold gmoves; rw [if_neg q])
  have ha : anB (cnB f (sptN f)) 21 = true := by
    cases q : anB (cnB f (sptN f)) 21
    · exact absurd ((cn_spt h h5) ▸ (bsum_any _ 21).mpr q) hg
    · rfl
  rcases bsI_in (cnB f (sptN f)) (mwV f (sptN f)) 21 with ⟨a1, _⟩ | ⟨_, k, hk, hpk, ek⟩
  · rw [ha] at a1
    exact absurd a1 (by decide)
  · have e : bmN f = k := by
      unfold bmN
      rw [ek, xun_nI (by omega)]
    rw [e]
    exact ⟨h5, hk, ek, by rw [gm_bit h h5 hk]; exact hpk⟩
def plG (K : Nat) : Nat → Nat → (Nat → Int32) → Nat × (Nat → Int32)
  | 0, i, f => (i, f)
  | n + 1, i, f => if K ≤ i then (i, f) else if gmoves f = 0 then (i, f) else plG K n (i + 1) (dMv f (bmN f))
theorem plG_ok {K : Nat} : ∀ (n i : Nat) (f : Nat → Int32), gok f → i ≤ K → gok (plG K n i f).2 ∧ (plG K n i f).1 ≤ K := by
  intro n
  induction n with
  | zero => intro i f h hi; exact ⟨h, hi⟩
  | succ n ih =>
    intro i f h hi
    unfold plG
    by_cases c : K ≤ i
    · rw [if_pos c]; exact ⟨h, hi⟩
    · rw [if_neg c]
      by_cases d : gmoves f = 0
      · rw [if_pos d]; exact ⟨h, hi⟩
      · rw [if_neg d]
        have hb := bm_ok h d
        exact ih (i + 1) _ (gok_dMv h hb.2.1 hb.2.2.2) (by omega)
theorem f_plays {K : Nat} (hK : K ≤ 40) : ∀ (n i : Nat) (f : Nat → Int32) (M : XM), i ≤ K → K < i + n → gok f → M 0 = f → SIn M →
    ∃ M', fX8_playOn_29 n (nI K) (nI i) M = some (nI (plG K n i f).1, M') ∧ M' 0 = (plG K n i f).2 ∧ SIn M' ∧ ∀ r, r ≠ 0 → r ≠ 13 → r ≠ 14 → r ≠ 15 → r ≠ 17 → M' r = M r := by
  intro n
  induction n with
  | zero => intro i f M h1 h2; omega
  | succ n ih =>
    intro i f M h1 h2 h hM S
    rw [fX8_playOn_29]
    unfold plG
    by_cases c : K ≤ i
    · rw [if_pos (by rw [nI_leI (by omega) (by omega)]; exact c), if_pos c]
      exact ⟨M, rfl, hM, S, fun r _ _ _ _ _ => rfl⟩
    · rw [if_neg (by rw [nI_leI (by omega) (by omega)]; exact c), if_neg c, f_isOver (by rw [hM]; exact h), zi_ok, hM]
      by_cases d : gmoves f = 0
      · rw [if_pos d, if_neg i10, if_pos d]
        exact ⟨M, rfl, hM, S, fun r _ _ _ _ _ => rfl⟩
      · obtain ⟨h5, b1, b2, b3⟩ := bm_ok h d
        obtain ⟨Y, y1, y2, y3⟩ := f_bestMove hM h S
        rw [if_neg d, if_pos rfl, if_neg d, y1, zi_ok, b2, f_make (by rw [y3 0 (by decide) (by decide) (by decide) (by decide)]; exact hM) h b1 b3, zv_ok, nI_1]
        obtain ⟨Z, z1, z2, z3, z4⟩ := ih (i + 1) (dMv f (bmN f)) (srw Y 0 (dMv f (bmN f))) (by omega) (by omega) (gok_dMv h b1 b3) srw_s (SIn_cong y2 (fun r _ _ => srw_n (by omega)))
        exact ⟨Z, z1, z2, z3, fun r a b c d e => by rw [z4 r a b c d e, srw_n a, y3 r b c d e]⟩
theorem q_plays {K : Nat} (hK : K ≤ 40) : ∀ (n i : Nat) (f : Nat → Int32) (N : XM), i ≤ K → K < i + n → gok f → N 23 = f → TBA f N →
    ∃ N', fX9_plays_6 n (nI K) (nI i) N = some (nI (plG K n i f).1, N') ∧ N' 23 = (plG K n i f).2 ∧ ∀ r, r ≠ 23 → N' r = N r := by
  intro n
  induction n with
  | zero => intro i f M h1 h2; omega
  | succ n ih =>
    intro i f N h1 h2 h hN T
    rw [fX9_plays_6]
    unfold plG
    by_cases c : K ≤ i
    · rw [if_pos (by rw [nI_leI (by omega) (by omega)]; exact c), if_pos c]
      exact ⟨N, rfl, hN, fun r _ => rfl⟩
    · rw [if_neg (by rw [nI_leI (by omega) (by omega)]; exact c), if_neg c, q_isOver (by rw [hN]; exact h), zi_ok, hN]
      by_cases d : gmoves f = 0
      · rw [if_pos d, if_neg i10, if_pos d]
        exact ⟨N, rfl, hN, fun r _ => rfl⟩
      · obtain ⟨h5, b1, b2, b3⟩ := bm_ok h d
        rw [if_neg d, if_pos rfl, if_neg d, q_bestMove h h5 hN T, zi_ok, b2, q_does hN h b1 b3, zv_ok, nI_1]
        obtain ⟨Z, z1, z2, z3⟩ := ih (i + 1) (dMv f (bmN f)) (srw N 23 (dMv f (bmN f))) (by omega) (by omega) (gok_dMv h b1 b3) srw_s (TBA_cong (TBA_mono (dMv_same h b1) (fun q hq => dMv_le h b1 b3 hq) T) (srw_n (by decide)) (srw_n (by decide)))
        exact ⟨Z, z1, z2, fun r a => by rw [z3 r a, srw_n a]⟩
/-- both histories, whatever else has changed -/
theorem rec_gen {X M : XM} (I : Base X) (m1 : M 1 = X 0) (mh : ∀ r, r = 11 ∨ (3 ≤ r ∧ r ≤ 8) → M r = X r) : ∃ Y, fX1_add 1 M = some Y ∧ (∀ r, r ≠ 11 → (r < 3 ∨ 8 < r) → Y r = M r) ∧ ∀ W : XM, W 23 = X 0 → W 22 1 = X 22 1 → W 25 = X 25 → (∀ r, r = 11 ∨ (3 ≤ r ∧ r ≤ 8) → W r = Y r) →
    ∃ Z, fX9_records W = some Z ∧ (∀ r, r ≠ 25 → r ≠ 22 → Z r = W r) ∧ (∀ k, k ≠ 1 → Z 22 k = W 22 k) ∧ ∀ F : XM, (∀ r, r = 11 ∨ (3 ≤ r ∧ r ≤ 8) ∨ r = 25 → F r = Z r) → F 22 1 = Z 22 1 → BHist F := by
  obtain ⟨n, C, h1, h2, h3⟩ := I.hist
  obtain ⟨Y, hY, hc, hr⟩ := f_add (HC_cong h1 mh) (by rw [m1]; exact I.g0.z) (by rw [m1]; exact I.g0.b)
  rw [m1] at hc
  refine ⟨Y, hY, hr, fun W w23 w1 w25 wy => ?_⟩
  obtain ⟨Z, hZ, hm, hz, hz22⟩ := q_records h1.1 (HM_cong h2 w1 w25)
  rw [w23] at hm
  refine ⟨Z, hZ, hz, hz22, fun F f1 f2 => ⟨pushN n, pushC n C (X 0), HC_cong hc (fun r q => ?_), HM_cong hm f2 (f1 25 (Or.inr (Or.inr rfl))), fun j hj => ?_⟩⟩
  · rw [f1 r (by omega), hz r (by omega) (by omega), wy r q]
  · unfold pushN at hj
    unfold pushC
    by_cases c : n < 6
    · rw [if_pos c] at hj ⊢
      by_cases d : j = n
      · rw [if_pos d]; exact I.g0
      · rw [if_neg d]; exact h3 j (by omega)
    · rw [if_neg c] at hj ⊢
      by_cases d : j = 5
      · rw [if_pos d]; exact I.g0
      · rw [if_neg d]; exact h3 (j + 1) (by omega)
theorem Base.mk2 {X F : XM} (I : Base X) (g : gok (F 0)) (s : F 23 = F 0) (h : BHist F) (z1 : z27 (F 1)) (e : ∀ r, r = 2 ∨ r = 9 ∨ r = 10 ∨ r = 12 ∨ r = 26 ∨ r = 27 → F r = X r) (hp : BPad F) : Base F := by
  refine ⟨g, s, h, z1, by rw [e 2 (by decide)]; exact I.z2, fun w hw => by rw [e (9 + w) (by omega)]; exact I.z9 w hw, fun w hw => ?_, hp⟩
  rw [e 12 (by decide), e 27 (by decide), e 26 (by decide), e (9 + w) (by omega)]
  exact I.slots w hw
theorem op_play {X : XM} (I : Base X) (S : SIn X) (a1 : Int32) : ∃ r X1 X2, fX8_play a1 X = some (r, X1) ∧ fX9_play a1 X1 = some (r, X2) ∧ Base X2 ∧ SIn X2 ∧ K89 X X2 := by
  have x0 : srw X 1 (X 0) 0 = X 0 := srw_n (by decide)
  have r23 : srw (srw X 1 (X 0)) 22 (upd (srw X 1 (X 0) 22) 0 0) 23 = X 0 := by rw [srw_n (by decide), srw_n (by decide), I.same]
  have no : ∀ (r : Int32) (h0 : r < 0) (hk : fX8_playOn a1 (srw X 1 (X 0)) = some (r, srw X 1 (X 0))) (hq : fX9_play a1 (srw X 1 (X 0)) = some (r, srw (srw X 1 (X 0)) 22 (upd (srw X 1 (X 0) 22) 0 0))), ∃ r X1 X2, fX8_play a1 X = some (r, X1) ∧ fX9_play a1 X1 = some (r, X2) ∧ Base X2 ∧ SIn X2 ∧ K89 X X2 := fun r h0 hk hq => ⟨r, _, _, cls_ref I hk h0, hq, (base_ref I).1, SIn_cong S (fun r a b => (base_ref I).2 r a (by omega)), fun r hr => (base_ref I).2 r (by omega) (by omega)⟩
  by_cases c1 : a1 < 1
  · refine no (-2) (by decide) ?_ ?_
    · unfold fX8_playOn
      rw [if_pos c1]
    · unfold fX9_play
      rw [zl_ok, xup_eq, q_inF (Or.inl c1), zi_ok, if_pos rfl]
  by_cases c2 : 40 < a1
  · refine no (-2) (by decide) ?_ ?_
    · unfold fX8_playOn
      rw [if_neg c1, if_neg (fun q => absurd c2 (Int32.not_lt.2 q))]
    · unfold fX9_play
      rw [zl_ok, xup_eq, q_inF (Or.inr c2), zi_ok, if_pos rfl]
  obtain ⟨b1, b2⟩ := rng (x := a1) (lo := 1) (hi := 40) (by decide) (by decide) c1 c2
  have ea : a1 = nI (xun a1) := (nI_xun _).symm
  by_cases c3 : gmoves (X 0) = 0
  · refine no (-5) (by decide) ?_ ?_
    · unfold fX8_playOn
      rw [if_neg c1, if_pos (le_nlt c2), f_isOver (by rw [x0]; exact I.g0), zi_ok, x0, if_pos c3, if_neg i10]
    · unfold fX9_play
      rw [zl_ok, xup_eq, q_inT c1 c2, zi_ok, if_neg i10, q_isOver (by rw [r23]; exact I.g0), zi_ok, r23, if_pos c3, if_neg i10]
  · have hfu := fuel_ge
    generalize xun a1 = K at *
    obtain ⟨M, m1, m2, m3, m4⟩ := f_plays (K := K) b2 fuel 0 (X 0) (srw X 1 (X 0)) (by omega) (by omega) I.g0 x0 (SIn_cong S (fun r _ _ => srw_n (by omega)))
    obtain ⟨g1, g2⟩ := plG_ok (K := K) fuel 0 (X 0) I.g0 (by omega)
    obtain ⟨Y, y1, y2, yW⟩ := rec_gen (M := M) I (by rw [m4 1 (by decide) (by decide) (by decide) (by decide) (by decide), srw_s]) (fun r hr => by rw [m4 r (by omega) (by omega) (by omega) (by omega) (by omega), srw_n (by omega)])
    have yX : ∀ r, r ≠ 11 → (r < 3 ∨ 8 < r) → r ≠ 0 → r ≠ 1 → r ≠ 13 → r ≠ 14 → r ≠ 15 → r ≠ 17 → Y r = X r := fun r a b c d e f g h => by rw [y2 r a b, m4 r c e f g h, srw_n d]
    have e22 : Y 22 = X 22 := yX 22 (by decide) (by decide) (by decide) (by decide) (by decide) (by decide) (by decide) (by decide)
    have y23 : srw Y 22 (upd (Y 22) 0 0) 23 = X 0 := by rw [srw_n (by decide), yX 23 (by decide) (by decide) (by decide) (by decide) (by decide) (by decide) (by decide) (by decide), I.same]
    obtain ⟨Z, z1, z2, z3, zF⟩ := yW (srw Y 22 (upd (Y 22) 0 0)) y23 (by rw [srw_s, e22]; rfl) (by rw [srw_n (by decide), yX 25 (by decide) (by decide) (by decide) (by decide) (by decide) (by decide) (by decide) (by decide)]) (fun r hr => srw_n (by omega))
    have z23 : Z 23 = X 0 := by rw [z2 23 (by decide) (by decide), y23]
    obtain ⟨V, v1, v2, v3⟩ := q_reckonsAll I.g0 z23
    obtain ⟨N, n1, n2, n3⟩ := q_plays (K := K) b2 fuel 0 (X 0) V (by omega) (by omega) I.g0 (by rw [v3 23 (by decide) (by decide), z23]) v2
    generalize plG K fuel 0 (X 0) = jg at *
    have nY : ∀ r, r ≠ 23 → r ≠ 29 → r ≠ 30 → r ≠ 25 → r ≠ 22 → N r = Y r := fun r a b c d e => by rw [n3 r a, v3 r b c, z2 r d e, srw_n e]
    have n22 : ∀ k, k ≠ 0 → k ≠ 1 → N 22 k = X 22 k := fun k a b => by rw [n3 22 (by decide), v3 22 (by decide) (by decide), z3 k b, srw_s, pk_un a, e22]
    have n0 : N 0 = jg.2 := by rw [nY 0 (by decide) (by decide) (by decide) (by decide) (by decide), y2 0 (by decide) (by decide), m2]
    have n1' : N 1 = X 0 := by rw [nY 1 (by decide) (by decide) (by decide) (by decide) (by decide), y2 1 (by decide) (by decide), m4 1 (by decide) (by decide) (by decide) (by decide) (by decide), srw_s]
    have nX : ∀ r, r ≠ 11 → (r < 3 ∨ 8 < r) → r ≠ 0 → r ≠ 1 → r ≠ 13 → r ≠ 14 → r ≠ 15 → r ≠ 17 → r ≠ 23 → r ≠ 29 → r ≠ 30 → r ≠ 25 → r ≠ 22 → N r = X r := fun r a b c d e f g h i j k l m => by rw [nY r i j k l m, yX r a b c d e f g h]
    refine ⟨nI jg.1, Y, N, ?_, ?_, Base.mk2 I (by rw [n0]; exact g1) (by rw [n2, n0]) (zF N (fun r hr => ?_) ?_) (by rw [n1']; exact I.g0.z) (fun r hr => nX r (by omega) (by omega) (by omega) (by omega) (by omega) (by omega) (by omega) (by omega) (by omega) (by omega) (by omega) (by omega) (by omega)) ?_, SIn_cong m3 (fun r a b => ?_), fun r hr => nX r (by omega) (by omega) (by omega) (by omega) (by omega) (by omega) (by omega) (by omega) (by omega) (by omega) (by omega) (by omega) (by omega)⟩
    · unfold fX8_play
      rw [f_copyFrom (by decide) I.z1 I.g0.z I.g0.b, zv_ok]
      unfold fX8_playOn
      rw [if_neg c1, if_pos (le_nlt c2), f_isOver (by rw [x0]; exact I.g0), zi_ok, x0, if_neg c3, if_pos rfl, ea, show fX8_playOn_29 fuel (nI K) 0 (srw X 1 (X 0)) = _ from m1, zi_ok]
      unfold fX8_recorded
      rw [if_neg (nI_pos (by omega)), y1]
      rfl
    · unfold fX9_play
      rw [zl_ok, xup_eq, q_inT c1 c2, zi_ok, if_neg i10, q_isOver (by rw [y23]; exact I.g0), zi_ok, y23, if_neg c3, if_pos rfl, z1, zv_ok]
      unfold fX9_plays
      rw [v1, zv_ok, ea, show fX9_plays_6 fuel (nI K) 0 V = _ from n1, zi_ok]
    · rw [n3 r (by omega), v3 r (by omega) (by omega)]
    · rw [n3 22 (by decide), v3 22 (by decide) (by decide)]
    · obtain ⟨len, l1, l2, l3, l4⟩ := I.pad
      have q20 : N 20 = X 20 := nX 20 (by decide) (by decide) (by decide) (by decide) (by decide) (by decide) (by decide) (by decide) (by decide) (by decide) (by decide) (by decide) (by decide)
      have q21 : N 21 = X 21 := nX 21 (by decide) (by decide) (by decide) (by decide) (by decide) (by decide) (by decide) (by decide) (by decide) (by decide) (by decide) (by decide) (by decide)
      have q28 : N 28 = X 28 := nX 28 (by decide) (by decide) (by decide) (by decide) (by decide) (by decide) (by decide) (by decide) (by decide) (by decide) (by decide) (by decide) (by decide)
      exact ⟨len, l1, by rw [q20]; exact l2, by rw [n22 2 (by decide) (by decide)]; exact l3, fun i hi => by rw [q21, q28]; exact l4 i hi⟩
    · rw [nY r (by omega) (by omega) (by omega) (by omega) (by omega), y2 r (by omega) (by omega)]
end PY
