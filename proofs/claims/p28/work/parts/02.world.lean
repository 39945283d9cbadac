/-! THE WORLD: one memory X of rows and places for the class (rows 0 to 21); each cell of the heap shows a part of it. Rows 0 to 10: the games (now, before, draft, six of the history, two of the slots), in the reference's own order of places. -/
abbrev XM : Type := Nat → Nat → Int32
def xup (X : XM) (r k : Nat) (v : Int32) : XM := fun a b => if a = r ∧ b = k then v else X a b
def xun (x : Int32) : Nat := x.toBitVec.toNat
def aG (g : Nat) : Nat := 8 * g + 15
def aA (g : Nat) : Nat := 8 * g + 16
def aP (g p : Nat) : Nat := 8 * g + 17 + p
def aY (g w : Nat) : Nat := 8 * g + 21 + w
def aS (w : Nat) : Nat := 4 + w
theorem aG_lt {g : Nat} (h : g < 11) : aG g < 103 := by unfold aG; omega
theorem aA_lt {g : Nat} (h : g < 11) : aA g < 103 := by unfold aA; omega
theorem aP_lt {g p : Nat} (h : g < 11) (hp : p < 4) : aP g p < 103 := by unfold aP; omega
theorem aY_lt {g w : Nat} (h : g < 11) (hw : w < 2) : aY g w < 103 := by unfold aY; omega
theorem aS_lt {w : Nat} (hw : w < 2) : aS w < 103 := by unfold aS; omega
/-- an array of references: n of them, the rest null -/
def rfs (n : Nat) (f : Nat → Nat) : Nat → Option Nat := fun j => if j < n then some (f j) else none
def gct (L : Nat → Nat) (ac : Nat → ClassId) (X : XM) (g : Nat) : Nat → va_E
  | 0 => .inr (0, [.int (X g 0), .int (X g 1), .ref (L (aA g)), .int (X g 2), .ref (L (aY g 0)), .ref (L (aY g 1)), .int (X g 3), .int (X g 6), .int (X g 4), .int (X g 5)])
  | 1 => .inl (ac 3, 4, .inr (.inr (.inr (.inr (fun j => some (L (aP g j)))))))
  | 6 => .inr (4, [.int (X g 9), .int (X g 7)])
  | 7 => .inr (4, [.int (X g 10), .int (X g 8)])
  | n => .inr (3, [.int (X g (11 + 4 * (n - 2))), .int (X g (14 + 4 * (n - 2))), .int (X g (12 + 4 * (n - 2))), .int (X g (13 + 4 * (n - 2)))])
def ct (L : Nat → Nat) (ac : Nat → ClassId) (X : XM) : Nat → va_E
  | 0 => .inr (8, [.ref (L (aG 0)), .ref (L (aG 1)), .ref (L (aG 2)), .ref (L 1), .ref (L 3), .ref (L 6), .ref (L 11), .ref (L 13)])
  | 1 => .inr (1, [.ref (L 2), .int (X 11 0)])
  | 2 => .inl (ac 4, 6, .inr (.inr (.inr (.inr (fun j => some (L (aG (xun (X 11 (j + 1)))))))))) 
  | 3 => .inl (ac 5, 2, .inr (.inr (.inr (.inr (fun j => some (L (aS j)))))))
  | 4 => .inr (6, [.ref (L (aG 9)), .int (X 12 0)])
  | 5 => .inr (6, [.ref (L (aG 10)), .int (X 12 1)])
  | 6 => .inr (7, [.ref (L 7), .ref (L 8), .ref (L 9), .ref (L 10), .int (X 13 0), .int (X 13 1), .int (X 13 2), .int (X 13 3)])
  | 7 => .inl (ac 0, 23328, .inl (X 14))
  | 8 => .inl (ac 0, 23328, .inl (X 15))
  | 9 => .inl (ac 0, 21, .inl (X 16))
  | 10 => .inl (ac 0, 21, .inl (X 17))
  | 11 => .inr (5, [.ref (L 12), .int (X 18 0)])
  | 12 => .inl (ac 0, 201, .inl (X 19))
  | 13 => .inr (2, [.ref (L 14), .int (X 20 0)])
  | 14 => .inl (ac 1, 80, .inl (X 21))
  | n + 15 => gct L ac X (n / 8) (n % 8)
def fw (L : Nat → Nat) (ac : Nat → ClassId) (X : XM) : va_W := (List.range 103).map (fun j => (L j, ct L ac X j))
/-- the classes of the arrays, by place -/
def tys (ac : Nat → ClassId) : List (ClassId × FieldType) := [(ac 0, .int), (ac 1, .char), (ac 0, .int), (ac 3, .object RX3), (ac 4, .object RX0), (ac 5, .object RX6)]
theorem fw_at {L : Nat → Nat} {ac : Nat → ClassId} {X : XM} {j : Nat} {e : va_E} (hj : j < 103) (he : ct L ac X j = e) : (fw L ac X)[j]? = some (L j, e) := by
  subst he
  unfold fw
  rw [List.getElem?_map, List.getElem?_range hj]
  rfl
theorem ct_G {L : Nat → Nat} {ac : Nat → ClassId} {X : XM} (g : Nat) : ct L ac X (aG g) = .inr (0, [.int (X g 0), .int (X g 1), .ref (L (aA g)), .int (X g 2), .ref (L (aY g 0)), .ref (L (aY g 1)), .int (X g 3), .int (X g 6), .int (X g 4), .int (X g 5)]) := by
  show gct L ac X ((8 * g) / 8) ((8 * g) % 8) = _
  rw [show (8 * g) / 8 = g by omega, show (8 * g) % 8 = 0 by omega]
  rfl
theorem ct_A {L : Nat → Nat} {ac : Nat → ClassId} {X : XM} (g : Nat) : ct L ac X (aA g) = .inl (ac 3, 4, .inr (.inr (.inr (.inr (fun j => some (L (aP g j))))))) := by
  show gct L ac X ((8 * g + 1) / 8) ((8 * g + 1) % 8) = _
  rw [show (8 * g + 1) / 8 = g by omega, show (8 * g + 1) % 8 = 1 by omega]
  rfl
theorem ct_P {L : Nat → Nat} {ac : Nat → ClassId} {X : XM} (g p : Nat) (hp : p < 4) : ct L ac X (aP g p) = .inr (3, [.int (X g (11 + 4 * p)), .int (X g (14 + 4 * p)), .int (X g (12 + 4 * p)), .int (X g (13 + 4 * p))]) := by
  unfold aP
  rw [show 8 * g + 17 + p = (8 * g + (2 + p)) + 15 by omega]
  show gct L ac X ((8 * g + (2 + p)) / 8) ((8 * g + (2 + p)) % 8) = _
  rw [show (8 * g + (2 + p)) / 8 = g by omega, show (8 * g + (2 + p)) % 8 = 2 + p by omega]
  match p, hp with
  | 0, _ => rfl
  | 1, _ => rfl
  | 2, _ => rfl
  | 3, _ => rfl
theorem ct_Y {L : Nat → Nat} {ac : Nat → ClassId} {X : XM} (g w : Nat) (hw : w < 2) : ct L ac X (aY g w) = .inr (4, [.int (X g (9 + w)), .int (X g (7 + w))]) := by
  unfold aY
  rw [show 8 * g + 21 + w = (8 * g + (6 + w)) + 15 by omega]
  show gct L ac X ((8 * g + (6 + w)) / 8) ((8 * g + (6 + w)) % 8) = _
  rw [show (8 * g + (6 + w)) / 8 = g by omega, show (8 * g + (6 + w)) % 8 = 6 + w by omega]
  match w, hw with
  | 0, _ => rfl
  | 1, _ => rfl
theorem ct_S {L : Nat → Nat} {ac : Nat → ClassId} {X : XM} (w : Nat) (hw : w < 2) : ct L ac X (aS w) = .inr (6, [.ref (L (aG (9 + w))), .int (X 12 w)]) := by
  match w, hw with
  | 0, _ => rfl
  | 1, _ => rfl
/-- the cell that shows a place of the memory -/
def owner (r k : Nat) : Nat :=
  if r < 11 then (if k < 7 then aG r else if k = 7 ∨ k = 9 then aY r 0 else if k = 8 ∨ k = 10 then aY r 1 else aP r ((k - 11) / 4))
  else if r = 11 then (if k = 0 then 1 else 2)
  else if r = 12 then aS k
  else if r = 13 then 6
  else if r < 18 then r - 7
  else if r = 18 then 11
  else if r = 19 then 12
  else if r = 20 then 13
  else if r = 21 then 14
  else 200
theorem xup_ne {X : XM} {r k r' k' : Nat} {v : Int32} (h : owner r' k' ≠ owner r k) : xup X r k v r' k' = X r' k' := by
  unfold xup
  rw [if_neg]
  rintro ⟨h1, h2⟩
  exact h (by rw [h1, h2])
theorem xup_nr {X : XM} {r k r' : Nat} {v : Int32} (h : r' ≠ r) : xup X r k v r' = X r' := by
  funext j
  unfold xup
  rw [if_neg]
  rintro ⟨h1, h2⟩
  exact h h1
theorem xup_row {X : XM} {r k : Nat} {v : Int32} : xup X r k v r = upd (X r) k v := by
  funext j
  unfold xup upd
  by_cases h : j = k <;> simp [h]
/-- a write leaves all other cells as they are -/
theorem ct_off {L : Nat → Nat} {ac : Nat → ClassId} {X : XM} {r k : Nat} {v : Int32} {i : Nat} (hi : i < 103) (hne : i ≠ owner r k) : ct L ac (xup X r k v) i = ct L ac X i := by
  have one : ∀ r' k', owner r' k' = i → xup X r k v r' k' = X r' k' := fun r' k' h => xup_ne (by rw [h]; exact hne)
  have row : ∀ r', (∀ k', owner r' k' = i) → xup X r k v r' = X r' := fun r' h => funext fun k' => one r' k' (h k')
  by_cases h26 : i < 15
  · have h26' := h26
    revert one row
    revert hne hi
    match i, h26 with
    | 0, _ => intro _ _ _ _; rfl
    | 1, _ => intro _ _ one _; simp only [ct]; rw [one 11 0 rfl]
    | 2, _ => intro _ _ one _; simp only [ct]; congr 7; funext j; rw [one 11 (j + 1) rfl]
    | 3, _ => intro _ _ _ _; rfl
    | 4, _ => intro _ _ one _; simp only [ct]; rw [one 12 0 rfl]
    | 5, _ => intro _ _ one _; simp only [ct]; rw [one 12 1 rfl]
    | 6, _ => intro _ _ one _; simp only [ct]; rw [one 13 0 rfl, one 13 1 rfl, one 13 2 rfl, one 13 3 rfl]
    | 7, _ => intro _ _ _ row; simp only [ct]; rw [row 14 (fun _ => rfl)]
    | 8, _ => intro _ _ _ row; simp only [ct]; rw [row 15 (fun _ => rfl)]
    | 9, _ => intro _ _ _ row; simp only [ct]; rw [row 16 (fun _ => rfl)]
    | 10, _ => intro _ _ _ row; simp only [ct]; rw [row 17 (fun _ => rfl)]
    | 11, _ => intro _ _ one _; simp only [ct]; rw [one 18 0 rfl]
    | 12, _ => intro _ _ _ row; simp only [ct]; rw [row 19 (fun _ => rfl)]
    | 13, _ => intro _ _ one _; simp only [ct]; rw [one 20 0 rfl]
    | 14, _ => intro _ _ _ row; simp only [ct]; rw [row 21 (fun _ => rfl)]
    | n + 15, h => exact absurd h (by omega)
  · obtain ⟨g, w, hw, rfl⟩ : ∃ g w, w < 8 ∧ i = (8 * g + w) + 15 := ⟨(i - 15) / 8, (i - 15) % 8, Nat.mod_lt _ (by decide), by omega⟩
    have hg : g < 11 := by omega
    show gct L ac _ ((8 * g + w) / 8) ((8 * g + w) % 8) = gct L ac _ ((8 * g + w) / 8) ((8 * g + w) % 8)
    rw [show (8 * g + w) / 8 = g by omega, show (8 * g + w) % 8 = w by omega]
    have big : ∀ k' p, p < 4 → w = 2 + p → 11 + 4 * p ≤ k' → k' < 15 + 4 * p → xup X r k v g k' = X g k' := by
      intro k' p hp hwp h1 h2
      refine one g k' ?_
      unfold owner aP
      rw [if_pos hg, if_neg (by omega), if_neg (by omega), if_neg (by omega)]
      omega
    match w, hw with
    | 0, _ =>
      have z : ∀ k', k' < 7 → xup X r k v g k' = X g k' := fun k' hk => one g k' (by unfold owner aG; rw [if_pos hg, if_pos hk])
      simp only [gct]
      rw [z 0 (by decide), z 1 (by decide), z 2 (by decide), z 3 (by decide), z 4 (by decide), z 5 (by decide), z 6 (by decide)]
    | 1, _ => rfl
    | 2, _ => simp only [gct]; rw [big (11 + 4 * (0 + 2 - 2)) 0 (by decide) rfl (by decide) (by decide), big (12 + 4 * (0 + 2 - 2)) 0 (by decide) rfl (by decide) (by decide), big (13 + 4 * (0 + 2 - 2)) 0 (by decide) rfl (by decide) (by decide), big (14 + 4 * (0 + 2 - 2)) 0 (by decide) rfl (by decide) (by decide)]
    | 3, _ => simp only [gct]; rw [big (11 + 4 * (3 - 2)) 1 (by decide) rfl (by decide) (by decide), big (12 + 4 * (3 - 2)) 1 (by decide) rfl (by decide) (by decide), big (13 + 4 * (3 - 2)) 1 (by decide) rfl (by decide) (by decide), big (14 + 4 * (3 - 2)) 1 (by decide) rfl (by decide) (by decide)]
    | 4, _ => simp only [gct]; rw [big (11 + 4 * (4 - 2)) 2 (by decide) rfl (by decide) (by decide), big (12 + 4 * (4 - 2)) 2 (by decide) rfl (by decide) (by decide), big (13 + 4 * (4 - 2)) 2 (by decide) rfl (by decide) (by decide), big (14 + 4 * (4 - 2)) 2 (by decide) rfl (by decide) (by decide)]
    | 5, _ => simp only [gct]; rw [big (11 + 4 * (5 - 2)) 3 (by decide) rfl (by decide) (by decide), big (12 + 4 * (5 - 2)) 3 (by decide) rfl (by decide) (by decide), big (13 + 4 * (5 - 2)) 3 (by decide) rfl (by decide) (by decide), big (14 + 4 * (5 - 2)) 3 (by decide) rfl (by decide) (by decide)]
    | 6, _ =>
      simp only [gct]
      rw [one g 9 (by unfold owner aY; rw [if_pos hg, if_neg (by omega), if_pos (Or.inr rfl)]), one g 7 (by unfold owner aY; rw [if_pos hg, if_neg (by omega), if_pos (Or.inl rfl)])]
    | 7, _ =>
      simp only [gct]
      rw [one g 10 (by unfold owner aY; rw [if_pos hg, if_neg (by omega), if_neg (by omega), if_pos (Or.inr rfl)]), one g 8 (by unfold owner aY; rw [if_pos hg, if_neg (by omega), if_neg (by omega), if_pos (Or.inl rfl)])]
theorem fw_set {L : Nat → Nat} {ac : Nat → ClassId} {X : XM} {r k : Nat} {v : Int32} {j : Nat} {e : va_E} (how : owner r k = j) (he : ct L ac (xup X r k v) j = e) : (fw L ac X).set j (L j, e) = fw L ac (xup X r k v) := by
  apply List.ext_getElem?
  intro i
  by_cases hi : i < 103
  · by_cases hij : i = j
    · subst hij
      rw [List.getElem?_set_self (by simpa [fw] using hi), fw_at hi he]
    · rw [List.getElem?_set_ne (Ne.symm hij), fw_at hi rfl, fw_at hi rfl, ct_off hi (by rw [how]; exact hij)]
  · have h1 : ((fw L ac X).set j (L j, e)).length = 103 := by simp [fw]
    have h2 : (fw L ac (xup X r k v)).length = 103 := by simp [fw]
    rw [List.getElem?_eq_none (by omega), List.getElem?_eq_none (by omega)]
