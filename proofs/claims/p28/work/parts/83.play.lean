/-! PLAYING ON -/
section PY
theorem SIn_cong {X Y : XM} (h : SIn X) (e : ∀ r, 13 ≤ r → r ≤ 17 → Y r = X r) : SIn Y := by
  obtain ⟨s1, s2, s3⟩ := h
  refine ⟨by rw [e 16 (by decide) (by decide)]; exact s1, by rw [e 17 (by decide) (by decide)]; exact s2, ?_⟩
  rw [e 13 (by decide) (by decide)]
  rcases s3 with q | ⟨f, a, b, d⟩
  · exact Or.inl q
  · exact Or.inr ⟨f, a, b, SV_cong d e⟩
def bmN (f : Nat → Int32) : Nat := xun (bsI (cnB f (sptN f)) (mwV f (sptN f)) 21)
theorem bm_ok {f : Nat → Int32} (h : gok f) (hg : gmoves f ≠ 0) : f 5 = 0 ∧ bmN f < 21 ∧ bsI (cnB f (sptN f)) (mwV f (sptN f)) 21 = nI (bmN f) ∧ (gmoves f).testBit (bmN f) = true := by
  have h5 : f 5 = 0 := Classical.byContradiction fun q => hg (by unfold gmoves; rw [if_neg q])
  have ha : anB (cnB f (sptN f)) 21 = true := by
    cases q : anB (cnB f (sptN f)) 21
    · exact absurd ((cn_spt h h5) ▸ (bsum_any _ 21).mpr q) hg
    · rfl
  rcases bsI_in (cnB f (sptN f)) (mwV f (sptN f)) 21 with ⟨a1, _⟩ | ⟨_, k, hk, hpk, ek⟩
  · rw [ha] at a1
    exact absurd a1 (by decide)
  · have e : bmN f = k := by
      unfold bmN
      rw [ek, xun_nI (by omega)]
    rw [e]
    exact ⟨h5, hk, ek, by rw [gm_bit h h5 hk]; exact hpk⟩
def plG (K : Nat) : Nat → Nat → (Nat → Int32) → Nat × (Nat → Int32)
  | 0, i, f => (i, f)
  | n + 1, i, f => if K ≤ i then (i, f) else if gmoves f = 0 then (i, f) else plG K n (i + 1) (dMv f (bmN f))
theorem plG_ok {K : Nat} : ∀ (n i : Nat) (f : Nat → Int32), gok f → i ≤ K → gok (plG K n i f).2 ∧ (plG K n i f).1 ≤ K := by
  intro n
  induction n with
  | zero => intro i f h hi; exact ⟨h, hi⟩
  | succ n ih =>
    intro i f h hi
    unfold plG
    by_cases c : K ≤ i
    · rw [if_pos c]; exact ⟨h, hi⟩
    · rw [if_neg c]
      by_cases d : gmoves f = 0
      · rw [if_pos d]; exact ⟨h, hi⟩
      · rw [if_neg d]
        have hb := bm_ok h d
        exact ih (i + 1) _ (gok_dMv h hb.2.1 hb.2.2.2) (by omega)
theorem f_plays {K : Nat} (hK : K ≤ 40) : ∀ (n i : Nat) (f : Nat → Int32) (M : XM), i ≤ K → K < i + n → gok f → M 0 = f → SIn M →
    ∃ M', fX8_playOn_29 n (nI K) (nI i) M = some (nI (plG K n i f).1, M') ∧ M' 0 = (plG K n i f).2 ∧ SIn M' ∧ ∀ r, r ≠ 0 → r ≠ 13 → r ≠ 14 → r ≠ 15 → r ≠ 17 → M' r = M r := by
  intro n
  induction n with
  | zero => intro i f M h1 h2; omega
  | succ n ih =>
    intro i f M h1 h2 h hM S
    rw [fX8_playOn_29]
    unfold plG
    by_cases c : K ≤ i
    · rw [if_pos (by rw [nI_leI (by omega) (by omega)]; exact c), if_pos c]
      exact ⟨M, rfl, hM, S, fun r _ _ _ _ _ => rfl⟩
    · rw [if_neg (by rw [nI_leI (by omega) (by omega)]; exact c), if_neg c, f_isOver (by rw [hM]; exact h), zi_ok, hM]
      by_cases d : gmoves f = 0
      · rw [if_pos d, if_neg i10, if_pos d]
        exact ⟨M, rfl, hM, S, fun r _ _ _ _ _ => rfl⟩
      · obtain ⟨h5, b1, b2, b3⟩ := bm_ok h d
        obtain ⟨Y, y1, y2, y3⟩ := f_bestMove hM h S
        rw [if_neg d, if_pos rfl, if_neg d, y1, zi_ok, b2, f_make (by rw [y3 0 (by decide) (by decide) (by decide) (by decide)]; exact hM) h b1 b3, zv_ok, nI_1]
        obtain ⟨Z, z1, z2, z3, z4⟩ := ih (i + 1) (dMv f (bmN f)) (srw Y 0 (dMv f (bmN f))) (by omega) (by omega) (gok_dMv h b1 b3) srw_s (SIn_cong y2 (fun r _ _ => srw_n (by omega)))
        exact ⟨Z, z1, z2, z3, fun r a b c d e => by rw [z4 r a b c d e, srw_n a, y3 r b c d e]⟩
end PY
