/-! THE PAD: writing -/
section PW
def wr (f : Nat → Int32) (L j n : Nat) : Nat → Int32 := fun q => if L ≤ q ∧ q < L + j then nI (byt n (L + j - 1 - q)) else f q
theorem wr_0 {f : Nat → Int32} {L n : Nat} : wr f L 0 n = f := by
  funext q
  unfold wr
  rw [if_neg (by omega)]
theorem wr_step {f : Nat → Int32} {L j n : Nat} : wr (upd f L (nI (byt n j))) (L + 1) j n = wr f L (j + 1) n := by
  funext q
  unfold wr upd
  by_cases c : q = L
  · rw [if_neg (by omega), if_pos c, if_pos (by omega), show L + (j + 1) - 1 - q = j by omega]
  · rw [if_neg c]
    by_cases d : L + 1 ≤ q ∧ q < L + 1 + j
    · rw [if_pos d, if_pos (by omega), show L + 1 + j - 1 - q = L + (j + 1) - 1 - q by omega]
    · rw [if_neg d, if_neg (by omega)]
theorem chr_ok : ∀ b, b < 256 → vp_nar .char (((nI b).toUInt32 % 65536).toInt32) = nI b := by decide +kernel
theorem f_app_5 {n : Nat} (hn : n < 2 ^ 64) {x3 : Int32} : ∀ (m j L : Nat) (X : XM), j < m → j ≤ 8 → L + j ≤ 80 → X 20 0 = nI L → fX2_append_5 m (lU n) x3 (nI j - 1) X = some (srw (srw X 21 (wr (X 21) L j n)) 20 (upd (X 20) 0 (nI (L + j)))) := by
  intro m
  induction m with
  | zero => intro j L X h; omega
  | succ m ih =>
    intro j L X h1 h2 h3 hL
    rw [fX2_append_5]
    match j, h1, h2, h3 with
    | 0, _, _, _ =>
      rw [if_pos (show nI 0 - 1 < 0 by decide), wr_0, srw_id]
      have : upd (X 20) 0 (nI (L + 0)) = X 20 := by
        funext q
        unfold upd
        by_cases c : q = 0
        · rw [if_pos c, c, hL]; rfl
        · rw [if_neg c]
      rw [this, srw_id]
    | j + 1, h1, h2, h3 =>
      have e1 : nI (j + 1) - 1 = nI j := by rw [show (1 : Int32) = nI 1 from rfl, nI_sub (by omega)]; rfl
      rw [e1, if_neg (nI_pos (by omega)), hL, if_neg (nI_pos (by omega)), if_neg (show ¬ (80 : Int32) ≤ nI L by rw [show (80 : Int32) = nI 80 from rfl, nI_leI (by decide) (by omega)]; omega), f_codeIn hn (by omega), zi_ok, zd_ok (vp_in_nI (by omega) (by decide)), nI_clampN (by omega), chr_ok _ (byt_lt _ _), zl_ok, zl_ok, xup_eq, xup_eq, srw_n (by decide : 20 ≠ 21), hL, nI_1, ← Int32.sub_eq_add_neg]
      rw [ih j (L + 1) _ (by omega) (by omega) (by omega) (by rw [srw_s]; rfl)]
      rw [srw_n (by decide : 21 ≠ 20), srw_s, srw_s, wr_step, srw_comm (by decide : 20 ≠ 21), srw_ss, srw_ss, show L + 1 + j = L + (j + 1) by omega]
      congr 2
      funext q
      unfold upd
      split <;> rfl
theorem q_wr {n c L : Nat} (hn : n < 2 ^ 64) (hc : c ≤ 8) (hLc : L + c ≤ 80) {x4 : Int64} {x6 : Int32} : ∀ (m i : Nat) (X : XM), i ≤ c → c < i + m → X 22 2 = nI L → fX9_put_108 m (lU n) (nI c) x4 x6 (nI i) X = some (nI (L + c), srw (srw X 28 (wr (X 28) (L + i) (c - i) n)) 22 (upd (X 22) 2 (nI (L + c)))) := by
  intro m
  induction m with
  | zero => intro i X h1 h2; omega
  | succ m ih =>
    intro i X h1 h2 hL
    rw [fX9_put_108]
    by_cases d : i = c
    · subst d
      rw [if_pos (Int32.le_refl _), zl_ok, xup_eq, hL, nI_add, Nat.sub_self, wr_0, srw_id, srw_s]
      rfl
    · have hb : c - 1 - i < 8 := by omega
      have e8 : 8 * ((nI c - 1) - nI i) = nI (8 * (c - 1 - i)) := by
        rw [show (1 : Int32) = nI 1 from rfl, nI_sub (by omega), nI_sub (by omega)]
        generalize c - 1 - i = k at *
        match k, hb with
        | 0, _ => rfl
        | 1, _ => rfl
        | 2, _ => rfl
        | 3, _ => rfl
        | 4, _ => rfl
        | 5, _ => rfl
        | 6, _ => rfl
        | 7, _ => rfl
      have eb : Int64.toInt32 (o_lus (lU n) (nI (8 * (c - 1 - i))) &&& (255 : Int64)) = nI (byt n (c - 1 - i)) := by
        unfold byt
        rw [lus_ok hn (by omega), and255 (Nat.lt_of_le_of_lt (Nat.div_le_self _ _) hn), byte32 _ (Nat.mod_lt _ (by decide)), pow256]
      rw [if_neg (show ¬ nI c ≤ nI i by rw [nI_leI (by omega) (by omega)]; omega), e8, eb, hL, nI_add, zd_ok (vp_in_nI (by omega) (by decide)), nI_clampN (by omega), zl_ok, xup_eq, nI_1]
      rw [ih (i + 1) _ (by omega) (by omega) (by rw [srw_n (by decide)]; exact hL)]
      rw [srw_s, srw_ss, srw_n (by decide : 22 ≠ 28), show L + (i + 1) = L + i + 1 by omega, show c - 1 - i = c - (i + 1) by omega, wr_step, show c - (i + 1) + 1 = c - i by omega]
end PW
