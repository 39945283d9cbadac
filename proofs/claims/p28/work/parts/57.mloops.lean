/-! THE REFERENCE's small loops -/
section ML
def psum (f : Nat → Int32) : Nat → Nat
  | 0 => 0
  | n + 1 => psum f n + gT f n
theorem gT_zero {f : Nat → Int32} (h : gok f) {p : Nat} (hp : p < 4) (hn : xun (f 2) ≤ p) : gT f p = 0 := by
  unfold gT
  rw [((h.2.2.2.2.2.2.2.2.2.1 p hp).2.2.2.2 hn).1]
  rfl
theorem psum_all {f : Nat → Int32} (h : gok f) : psum f (xun (f 2)) = gsum f := by
  have h4 := h.2.2.2.1
  have z := fun p hp hn => gT_zero h (p := p) hp hn
  unfold gsum
  generalize xun (f 2) = n at *
  match n, h4 with
  | 0, _ => rw [z 0 (by decide) (by decide), z 1 (by decide) (by decide), z 2 (by decide) (by decide), z 3 (by decide) (by decide)]; rfl
  | 1, _ => rw [z 1 (by decide) (by decide), z 2 (by decide) (by decide), z 3 (by decide) (by decide)]; simp [psum]
  | 2, _ => rw [z 2 (by decide) (by decide), z 3 (by decide) (by decide)]; simp [psum]
  | 3, _ => rw [z 3 (by decide) (by decide)]; simp [psum]
  | 4, _ => simp [psum]
theorem gok_begin {f : Nat → Int32} (h : gok f) : gok (dBegin f) := by
  obtain ⟨h0, h1, h2, h3, h4, h5, h6, h7, h8, hp, hz⟩ := h
  refine ⟨h0, h1, h2, h3, (show xun 0 ≤ 1 by decide), (show xun 0 ≤ 1 by decide), (show xun 0 ≤ 1 by decide), h7, h8, fun p hp4 => ?_, fun k hk => ?_⟩
  · have q := hp p hp4
    match p, hp4 with
    | 0, _ => exact ⟨q.2.2.2.1, q.2.1, q.2.2.1, q.2.2.2.1, fun c => ⟨(q.2.2.2.2 c).2, (q.2.2.2.2 c).2⟩⟩
    | 1, _ => exact ⟨q.2.2.2.1, q.2.1, q.2.2.1, q.2.2.2.1, fun c => ⟨(q.2.2.2.2 c).2, (q.2.2.2.2 c).2⟩⟩
    | 2, _ => exact ⟨q.2.2.2.1, q.2.1, q.2.2.1, q.2.2.2.1, fun c => ⟨(q.2.2.2.2 c).2, (q.2.2.2.2 c).2⟩⟩
    | 3, _ => exact ⟨q.2.2.2.1, q.2.1, q.2.2.1, q.2.2.2.1, fun c => ⟨(q.2.2.2.2 c).2, (q.2.2.2.2 c).2⟩⟩
  · unfold dBegin
    rw [if_neg (by omega), if_neg (by omega)]
    exact hz k hk
end ML
