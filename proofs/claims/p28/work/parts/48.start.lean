def XI : XM := fun r => match r with
  | 11 => fun k => match k with
    | 0 => 0
    | n + 1 => nI (n + 3)
  | 12 => fun _ => 0
  | 13 => fun k => match k with
    | 3 => -100000
    | _ => 0
  | 14 => fun _ => 0
  | 15 => fun _ => 0
  | 16 => stpF
  | 17 => fun _ => 0
  | 18 => fun _ => 0
  | 19 => fun _ => 0
  | 20 => fun _ => 0
  | 21 => fun _ => 0
  | 22 => fun _ => 0
  | 23 => fun _ => 0
  | 24 => fun _ => 0
  | 25 => fun _ => 0
  | 26 => fun _ => 0
  | 27 => fun _ => 0
  | 28 => fun _ => 0
  | 29 => fun _ => 0
  | 30 => fun _ => 0
  | 31 => fun _ => 0
  | 32 => fun _ => 0
  | _ => fun k => match k with
    | 0 => 7
    | 1 => 10
    | _ => 0
def LI (q : Nat) (u : Nat → Nat → Nat) : Nat → Nat := fun j => [q, u 0 3, u 10 0, u 0 4, u 0 8, u 0 9, u 0 5, u 4 0, u 4 1, u 4 2, u 4 3, u 0 6, u 5 0, u 0 7, u 6 0, u 0 0, u 1 0, u 1 3, u 1 4, u 1 5, u 1 6, u 1 1, u 1 2, u 0 1, u 2 0, u 2 3, u 2 4, u 2 5, u 2 6, u 2 1, u 2 2, u 0 2, u 3 0, u 3 3, u 3 4, u 3 5, u 3 6, u 3 1, u 3 2, u 10 1, u 11 0, u 11 3, u 11 4, u 11 5, u 11 6, u 11 1, u 11 2, u 10 2, u 12 0, u 12 3, u 12 4, u 12 5, u 12 6, u 12 1, u 12 2, u 10 3, u 13 0, u 13 3, u 13 4, u 13 5, u 13 6, u 13 1, u 13 2, u 10 4, u 14 0, u 14 3, u 14 4, u 14 5, u 14 6, u 14 1, u 14 2, u 10 5, u 15 0, u 15 3, u 15 4, u 15 5, u 15 6, u 15 1, u 15 2, u 10 6, u 16 0, u 16 3, u 16 4, u 16 5, u 16 6, u 16 1, u 16 2, u 20 0, u 21 0, u 21 3, u 21 4, u 21 5, u 21 6, u 21 1, u 21 2, u 22 0, u 23 0, u 23 3, u 23 4, u 23 5, u 23 6, u 23 1, u 23 2].getD j 0
def pmI : List Nat := [0, 25, 26, 75, 85, 94, 76, 77, 78, 79, 80, 81, 82, 83, 84, 1, 2, 5, 6, 7, 8, 3, 4, 9, 10, 13, 14, 15, 16, 11, 12, 17, 18, 21, 22, 23, 24, 19, 20, 27, 28, 31, 32, 33, 34, 29, 30, 35, 36, 39, 40, 41, 42, 37, 38, 43, 44, 47, 48, 49, 50, 45, 46, 51, 52, 55, 56, 57, 58, 53, 54, 59, 60, 63, 64, 65, 66, 61, 62, 67, 68, 71, 72, 73, 74, 69, 70, 86, 87, 90, 91, 92, 93, 88, 89, 95, 96, 99, 100, 101, 102, 97, 98]
theorem pmI_inj : ∀ i, i < 103 → ∀ j, j < 103 → pmI.getD i 0 = pmI.getD j 0 → i = j := by decide +kernel
theorem va_at.refs {D : va_G} {cl : List vw_C} {H : Heap} {a : Nat} {cA : ClassId} {n : Nat} {f f' : Nat → Option Nat} (h : va_at D cl (a, .inl (cA, n, .inr (.inr (.inr (.inr f))))) H) (hf : ∀ j, j < n → f j = f' j) : va_at D cl (a, .inl (cA, n, .inr (.inr (.inr (.inr f'))))) H := by
  show H[a]? = some (vp_cell cA (n, .inr (.inr (.inr (.inr f')))))
  have e : vp_cell cA (n, .inr (.inr (.inr (.inr f')))) = vp_cell cA (n, .inr (.inr (.inr (.inr f)))) := by
    rw [vp_cell_q, vp_cell_q]
    exact arrV_cong (fun j hj => by rw [hf j hj])
  rw [e]
  exact h
def wFlat (ac : Nat → ClassId) (q : Nat) (u : Nat → Nat → Nat) : va_W := [(q, .inr (8, [.ref (u 0 0), .ref (u 0 1), .ref (u 0 2), .ref (u 0 3), .ref (u 0 4), .ref (u 0 5), .ref (u 0 6), .ref (u 0 7)])),
  (u 0 0, .inr (0, [.int 7, .int 10, .ref (u 1 0), .int 0, .ref (u 1 1), .ref (u 1 2), .int 0, .int 0, .int 0, .int 0])),
  (u 1 0, .inl (ac 3, 4, .inr (.inr (.inr (.inr (fun j => some (u 1 (0 + (3 + j))))))))),
  (u 1 1, .inr (4, [.int 0, .int 0])),
  (u 1 2, .inr (4, [.int 0, .int 0])),
  (u 1 3, .inr (3, [.int 0, .int 0, .int 0, .int 0])),
  (u 1 4, .inr (3, [.int 0, .int 0, .int 0, .int 0])),
  (u 1 5, .inr (3, [.int 0, .int 0, .int 0, .int 0])),
  (u 1 6, .inr (3, [.int 0, .int 0, .int 0, .int 0])),
  (u 0 1, .inr (0, [.int 7, .int 10, .ref (u 2 0), .int 0, .ref (u 2 1), .ref (u 2 2), .int 0, .int 0, .int 0, .int 0])),
  (u 2 0, .inl (ac 3, 4, .inr (.inr (.inr (.inr (fun j => some (u 2 (0 + (3 + j))))))))),
  (u 2 1, .inr (4, [.int 0, .int 0])),
  (u 2 2, .inr (4, [.int 0, .int 0])),
  (u 2 3, .inr (3, [.int 0, .int 0, .int 0, .int 0])),
  (u 2 4, .inr (3, [.int 0, .int 0, .int 0, .int 0])),
  (u 2 5, .inr (3, [.int 0, .int 0, .int 0, .int 0])),
  (u 2 6, .inr (3, [.int 0, .int 0, .int 0, .int 0])),
  (u 0 2, .inr (0, [.int 7, .int 10, .ref (u 3 0), .int 0, .ref (u 3 1), .ref (u 3 2), .int 0, .int 0, .int 0, .int 0])),
  (u 3 0, .inl (ac 3, 4, .inr (.inr (.inr (.inr (fun j => some (u 3 (0 + (3 + j))))))))),
  (u 3 1, .inr (4, [.int 0, .int 0])),
  (u 3 2, .inr (4, [.int 0, .int 0])),
  (u 3 3, .inr (3, [.int 0, .int 0, .int 0, .int 0])),
  (u 3 4, .inr (3, [.int 0, .int 0, .int 0, .int 0])),
  (u 3 5, .inr (3, [.int 0, .int 0, .int 0, .int 0])),
  (u 3 6, .inr (3, [.int 0, .int 0, .int 0, .int 0])),
  (u 0 3, .inr (1, [.ref (u 10 0), .int 0])),
  (u 10 0, .inl (ac 4, 6, .inr (.inr (.inr (.inr (fun j => some (u 10 (1 + j)))))))),
  (u 10 1, .inr (0, [.int 7, .int 10, .ref (u 11 0), .int 0, .ref (u 11 1), .ref (u 11 2), .int 0, .int 0, .int 0, .int 0])),
  (u 11 0, .inl (ac 3, 4, .inr (.inr (.inr (.inr (fun j => some (u 11 (0 + (3 + j))))))))),
  (u 11 1, .inr (4, [.int 0, .int 0])),
  (u 11 2, .inr (4, [.int 0, .int 0])),
  (u 11 3, .inr (3, [.int 0, .int 0, .int 0, .int 0])),
  (u 11 4, .inr (3, [.int 0, .int 0, .int 0, .int 0])),
  (u 11 5, .inr (3, [.int 0, .int 0, .int 0, .int 0])),
  (u 11 6, .inr (3, [.int 0, .int 0, .int 0, .int 0])),
  (u 10 2, .inr (0, [.int 7, .int 10, .ref (u 12 0), .int 0, .ref (u 12 1), .ref (u 12 2), .int 0, .int 0, .int 0, .int 0])),
  (u 12 0, .inl (ac 3, 4, .inr (.inr (.inr (.inr (fun j => some (u 12 (0 + (3 + j))))))))),
  (u 12 1, .inr (4, [.int 0, .int 0])),
  (u 12 2, .inr (4, [.int 0, .int 0])),
  (u 12 3, .inr (3, [.int 0, .int 0, .int 0, .int 0])),
  (u 12 4, .inr (3, [.int 0, .int 0, .int 0, .int 0])),
  (u 12 5, .inr (3, [.int 0, .int 0, .int 0, .int 0])),
  (u 12 6, .inr (3, [.int 0, .int 0, .int 0, .int 0])),
  (u 10 3, .inr (0, [.int 7, .int 10, .ref (u 13 0), .int 0, .ref (u 13 1), .ref (u 13 2), .int 0, .int 0, .int 0, .int 0])),
  (u 13 0, .inl (ac 3, 4, .inr (.inr (.inr (.inr (fun j => some (u 13 (0 + (3 + j))))))))),
  (u 13 1, .inr (4, [.int 0, .int 0])),
  (u 13 2, .inr (4, [.int 0, .int 0])),
  (u 13 3, .inr (3, [.int 0, .int 0, .int 0, .int 0])),
  (u 13 4, .inr (3, [.int 0, .int 0, .int 0, .int 0])),
  (u 13 5, .inr (3, [.int 0, .int 0, .int 0, .int 0])),
  (u 13 6, .inr (3, [.int 0, .int 0, .int 0, .int 0])),
  (u 10 4, .inr (0, [.int 7, .int 10, .ref (u 14 0), .int 0, .ref (u 14 1), .ref (u 14 2), .int 0, .int 0, .int 0, .int 0])),
  (u 14 0, .inl (ac 3, 4, .inr (.inr (.inr (.inr (fun j => some (u 14 (0 + (3 + j))))))))),
  (u 14 1, .inr (4, [.int 0, .int 0])),
  (u 14 2, .inr (4, [.int 0, .int 0])),
  (u 14 3, .inr (3, [.int 0, .int 0, .int 0, .int 0])),
  (u 14 4, .inr (3, [.int 0, .int 0, .int 0, .int 0])),
  (u 14 5, .inr (3, [.int 0, .int 0, .int 0, .int 0])),
  (u 14 6, .inr (3, [.int 0, .int 0, .int 0, .int 0])),
  (u 10 5, .inr (0, [.int 7, .int 10, .ref (u 15 0), .int 0, .ref (u 15 1), .ref (u 15 2), .int 0, .int 0, .int 0, .int 0])),
  (u 15 0, .inl (ac 3, 4, .inr (.inr (.inr (.inr (fun j => some (u 15 (0 + (3 + j))))))))),
  (u 15 1, .inr (4, [.int 0, .int 0])),
  (u 15 2, .inr (4, [.int 0, .int 0])),
  (u 15 3, .inr (3, [.int 0, .int 0, .int 0, .int 0])),
  (u 15 4, .inr (3, [.int 0, .int 0, .int 0, .int 0])),
  (u 15 5, .inr (3, [.int 0, .int 0, .int 0, .int 0])),
  (u 15 6, .inr (3, [.int 0, .int 0, .int 0, .int 0])),
  (u 10 6, .inr (0, [.int 7, .int 10, .ref (u 16 0), .int 0, .ref (u 16 1), .ref (u 16 2), .int 0, .int 0, .int 0, .int 0])),
  (u 16 0, .inl (ac 3, 4, .inr (.inr (.inr (.inr (fun j => some (u 16 (0 + (3 + j))))))))),
  (u 16 1, .inr (4, [.int 0, .int 0])),
  (u 16 2, .inr (4, [.int 0, .int 0])),
  (u 16 3, .inr (3, [.int 0, .int 0, .int 0, .int 0])),
  (u 16 4, .inr (3, [.int 0, .int 0, .int 0, .int 0])),
  (u 16 5, .inr (3, [.int 0, .int 0, .int 0, .int 0])),
  (u 16 6, .inr (3, [.int 0, .int 0, .int 0, .int 0])),
  (u 0 4, .inl (ac 5, 2, .inr (.inr (.inr (.inr (fun j => some (u 0 (8 + j)))))))),
  (u 0 5, .inr (7, [.ref (u 4 0), .ref (u 4 1), .ref (u 4 2), .ref (u 4 3), .int 0, .int 0, .int 0, .int (-100000)])),
  (u 4 0, .inl (ac 0, 23328, .inl (fun _ => 0))),
  (u 4 1, .inl (ac 0, 23328, .inl (fun _ => 0))),
  (u 4 2, .inl (ac 0, 21, .inl stpF)),
  (u 4 3, .inl (ac 0, 21, .inl (fun _ => 0))),
  (u 0 6, .inr (5, [.ref (u 5 0), .int 0])),
  (u 5 0, .inl (ac 0, 201, .inl (fun _ => 0))),
  (u 0 7, .inr (2, [.ref (u 6 0), .int 0])),
  (u 6 0, .inl (ac 1, 80, .inl (fun _ => 0))),
  (u 0 8, .inr (6, [.ref (u 20 0), .int 0])),
  (u 20 0, .inr (0, [.int 7, .int 10, .ref (u 21 0), .int 0, .ref (u 21 1), .ref (u 21 2), .int 0, .int 0, .int 0, .int 0])),
  (u 21 0, .inl (ac 3, 4, .inr (.inr (.inr (.inr (fun j => some (u 21 (0 + (3 + j))))))))),
  (u 21 1, .inr (4, [.int 0, .int 0])),
  (u 21 2, .inr (4, [.int 0, .int 0])),
  (u 21 3, .inr (3, [.int 0, .int 0, .int 0, .int 0])),
  (u 21 4, .inr (3, [.int 0, .int 0, .int 0, .int 0])),
  (u 21 5, .inr (3, [.int 0, .int 0, .int 0, .int 0])),
  (u 21 6, .inr (3, [.int 0, .int 0, .int 0, .int 0])),
  (u 0 9, .inr (6, [.ref (u 22 0), .int 0])),
  (u 22 0, .inr (0, [.int 7, .int 10, .ref (u 23 0), .int 0, .ref (u 23 1), .ref (u 23 2), .int 0, .int 0, .int 0, .int 0])),
  (u 23 0, .inl (ac 3, 4, .inr (.inr (.inr (.inr (fun j => some (u 23 (0 + (3 + j))))))))),
  (u 23 1, .inr (4, [.int 0, .int 0])),
  (u 23 2, .inr (4, [.int 0, .int 0])),
  (u 23 3, .inr (3, [.int 0, .int 0, .int 0, .int 0])),
  (u 23 4, .inr (3, [.int 0, .int 0, .int 0, .int 0])),
  (u 23 5, .inr (3, [.int 0, .int 0, .int 0, .int 0])),
  (u 23 6, .inr (3, [.int 0, .int 0, .int 0, .int 0]))]
theorem wFlat_eq {ac : Nat → ClassId} {q : Nat} {u : Nat → Nat → Nat} : wAll ac q u = wFlat ac q u := by
  simp only [wAll, wGame, wHist, wSolver, wSizes, wPad, wSlot, wFlat, List.cons_append, List.nil_append, List.append_assoc, Nat.zero_add, Nat.add_zero, Nat.reduceAdd]
theorem va_P_hd {D : va_G} {cl : List vw_C} {x : Nat × va_E} {ws : va_W} {H : Heap} (h : va_P D cl (x :: ws) H) : va_at D cl x H ∧ va_P D cl ws H := ⟨h 0 x rfl, fun k q hk => h (k + 1) q hk⟩
set_option maxHeartbeats 4000000 in
set_option maxRecDepth 100000 in
theorem start_cells {D : va_G} {ac : Nat → ClassId} {H : Heap} {q : Nat} {u : Nat → Nat → Nat} (hP : va_P D vwCl (wFlat ac q u) H) : ∀ i, i < 103 → va_at D vwCl (LI q u i, ct (LI q u) ac XI i) H := by
  unfold wFlat at hP
  obtain ⟨h0, hP⟩ := va_P_hd hP
  obtain ⟨h1, hP⟩ := va_P_hd hP
  obtain ⟨h2, hP⟩ := va_P_hd hP
  obtain ⟨h3, hP⟩ := va_P_hd hP
  obtain ⟨h4, hP⟩ := va_P_hd hP
  obtain ⟨h5, hP⟩ := va_P_hd hP
  obtain ⟨h6, hP⟩ := va_P_hd hP
  obtain ⟨h7, hP⟩ := va_P_hd hP
  obtain ⟨h8, hP⟩ := va_P_hd hP
  obtain ⟨h9, hP⟩ := va_P_hd hP
  obtain ⟨h10, hP⟩ := va_P_hd hP
  obtain ⟨h11, hP⟩ := va_P_hd hP
  obtain ⟨h12, hP⟩ := va_P_hd hP
  obtain ⟨h13, hP⟩ := va_P_hd hP
  obtain ⟨h14, hP⟩ := va_P_hd hP
  obtain ⟨h15, hP⟩ := va_P_hd hP
  obtain ⟨h16, hP⟩ := va_P_hd hP
  obtain ⟨h17, hP⟩ := va_P_hd hP
  obtain ⟨h18, hP⟩ := va_P_hd hP
  obtain ⟨h19, hP⟩ := va_P_hd hP
  obtain ⟨h20, hP⟩ := va_P_hd hP
  obtain ⟨h21, hP⟩ := va_P_hd hP
  obtain ⟨h22, hP⟩ := va_P_hd hP
  obtain ⟨h23, hP⟩ := va_P_hd hP
  obtain ⟨h24, hP⟩ := va_P_hd hP
  obtain ⟨h25, hP⟩ := va_P_hd hP
  obtain ⟨h26, hP⟩ := va_P_hd hP
  obtain ⟨h27, hP⟩ := va_P_hd hP
  obtain ⟨h28, hP⟩ := va_P_hd hP
  obtain ⟨h29, hP⟩ := va_P_hd hP
  obtain ⟨h30, hP⟩ := va_P_hd hP
  obtain ⟨h31, hP⟩ := va_P_hd hP
  obtain ⟨h32, hP⟩ := va_P_hd hP
  obtain ⟨h33, hP⟩ := va_P_hd hP
  obtain ⟨h34, hP⟩ := va_P_hd hP
  obtain ⟨h35, hP⟩ := va_P_hd hP
  obtain ⟨h36, hP⟩ := va_P_hd hP
  obtain ⟨h37, hP⟩ := va_P_hd hP
  obtain ⟨h38, hP⟩ := va_P_hd hP
  obtain ⟨h39, hP⟩ := va_P_hd hP
  obtain ⟨h40, hP⟩ := va_P_hd hP
  obtain ⟨h41, hP⟩ := va_P_hd hP
  obtain ⟨h42, hP⟩ := va_P_hd hP
  obtain ⟨h43, hP⟩ := va_P_hd hP
  obtain ⟨h44, hP⟩ := va_P_hd hP
  obtain ⟨h45, hP⟩ := va_P_hd hP
  obtain ⟨h46, hP⟩ := va_P_hd hP
  obtain ⟨h47, hP⟩ := va_P_hd hP
  obtain ⟨h48, hP⟩ := va_P_hd hP
  obtain ⟨h49, hP⟩ := va_P_hd hP
  obtain ⟨h50, hP⟩ := va_P_hd hP
  obtain ⟨h51, hP⟩ := va_P_hd hP
  obtain ⟨h52, hP⟩ := va_P_hd hP
  obtain ⟨h53, hP⟩ := va_P_hd hP
  obtain ⟨h54, hP⟩ := va_P_hd hP
  obtain ⟨h55, hP⟩ := va_P_hd hP
  obtain ⟨h56, hP⟩ := va_P_hd hP
  obtain ⟨h57, hP⟩ := va_P_hd hP
  obtain ⟨h58, hP⟩ := va_P_hd hP
  obtain ⟨h59, hP⟩ := va_P_hd hP
  obtain ⟨h60, hP⟩ := va_P_hd hP
  obtain ⟨h61, hP⟩ := va_P_hd hP
  obtain ⟨h62, hP⟩ := va_P_hd hP
  obtain ⟨h63, hP⟩ := va_P_hd hP
  obtain ⟨h64, hP⟩ := va_P_hd hP
  obtain ⟨h65, hP⟩ := va_P_hd hP
  obtain ⟨h66, hP⟩ := va_P_hd hP
  obtain ⟨h67, hP⟩ := va_P_hd hP
  obtain ⟨h68, hP⟩ := va_P_hd hP
  obtain ⟨h69, hP⟩ := va_P_hd hP
  obtain ⟨h70, hP⟩ := va_P_hd hP
  obtain ⟨h71, hP⟩ := va_P_hd hP
  obtain ⟨h72, hP⟩ := va_P_hd hP
  obtain ⟨h73, hP⟩ := va_P_hd hP
  obtain ⟨h74, hP⟩ := va_P_hd hP
  obtain ⟨h75, hP⟩ := va_P_hd hP
  obtain ⟨h76, hP⟩ := va_P_hd hP
  obtain ⟨h77, hP⟩ := va_P_hd hP
  obtain ⟨h78, hP⟩ := va_P_hd hP
  obtain ⟨h79, hP⟩ := va_P_hd hP
  obtain ⟨h80, hP⟩ := va_P_hd hP
  obtain ⟨h81, hP⟩ := va_P_hd hP
  obtain ⟨h82, hP⟩ := va_P_hd hP
  obtain ⟨h83, hP⟩ := va_P_hd hP
  obtain ⟨h84, hP⟩ := va_P_hd hP
  obtain ⟨h85, hP⟩ := va_P_hd hP
  obtain ⟨h86, hP⟩ := va_P_hd hP
  obtain ⟨h87, hP⟩ := va_P_hd hP
  obtain ⟨h88, hP⟩ := va_P_hd hP
  obtain ⟨h89, hP⟩ := va_P_hd hP
  obtain ⟨h90, hP⟩ := va_P_hd hP
  obtain ⟨h91, hP⟩ := va_P_hd hP
  obtain ⟨h92, hP⟩ := va_P_hd hP
  obtain ⟨h93, hP⟩ := va_P_hd hP
  obtain ⟨h94, hP⟩ := va_P_hd hP
  obtain ⟨h95, hP⟩ := va_P_hd hP
  obtain ⟨h96, hP⟩ := va_P_hd hP
  obtain ⟨h97, hP⟩ := va_P_hd hP
  obtain ⟨h98, hP⟩ := va_P_hd hP
  obtain ⟨h99, hP⟩ := va_P_hd hP
  obtain ⟨h100, hP⟩ := va_P_hd hP
  obtain ⟨h101, hP⟩ := va_P_hd hP
  obtain ⟨h102, hP⟩ := va_P_hd hP
  clear hP
  intro i hi
  match i, hi with
  | 0, _ => exact h0
  | 1, _ => exact h25
  | 2, _ => exact va_at.refs h26 (fun j hj => by match j, hj with | 0, _ => exact rfl | 1, _ => exact rfl | 2, _ => exact rfl | 3, _ => exact rfl | 4, _ => exact rfl | 5, _ => exact rfl | n + 6, h => exact absurd h (by omega))
  | 3, _ => exact va_at.refs h75 (fun j hj => by match j, hj with | 0, _ => exact rfl | 1, _ => exact rfl | n + 2, h => exact absurd h (by omega))
  | 4, _ => exact h85
  | 5, _ => exact h94
  | 6, _ => exact h76
  | 7, _ => exact h77
  | 8, _ => exact h78
  | 9, _ => exact h79
  | 10, _ => exact h80
  | 11, _ => exact h81
  | 12, _ => exact h82
  | 13, _ => exact h83
  | 14, _ => exact h84
  | 15, _ => exact h1
  | 16, _ => exact va_at.refs h2 (fun j hj => by match j, hj with | 0, _ => exact rfl | 1, _ => exact rfl | 2, _ => exact rfl | 3, _ => exact rfl | n + 4, h => exact absurd h (by omega))
  | 17, _ => exact h5
  | 18, _ => exact h6
  | 19, _ => exact h7
  | 20, _ => exact h8
  | 21, _ => exact h3
  | 22, _ => exact h4
  | 23, _ => exact h9
  | 24, _ => exact va_at.refs h10 (fun j hj => by match j, hj with | 0, _ => exact rfl | 1, _ => exact rfl | 2, _ => exact rfl | 3, _ => exact rfl | n + 4, h => exact absurd h (by omega))
  | 25, _ => exact h13
  | 26, _ => exact h14
  | 27, _ => exact h15
  | 28, _ => exact h16
  | 29, _ => exact h11
  | 30, _ => exact h12
  | 31, _ => exact h17
  | 32, _ => exact va_at.refs h18 (fun j hj => by match j, hj with | 0, _ => exact rfl | 1, _ => exact rfl | 2, _ => exact rfl | 3, _ => exact rfl | n + 4, h => exact absurd h (by omega))
  | 33, _ => exact h21
  | 34, _ => exact h22
  | 35, _ => exact h23
  | 36, _ => exact h24
  | 37, _ => exact h19
  | 38, _ => exact h20
  | 39, _ => exact h27
  | 40, _ => exact va_at.refs h28 (fun j hj => by match j, hj with | 0, _ => exact rfl | 1, _ => exact rfl | 2, _ => exact rfl | 3, _ => exact rfl | n + 4, h => exact absurd h (by omega))
  | 41, _ => exact h31
  | 42, _ => exact h32
  | 43, _ => exact h33
  | 44, _ => exact h34
  | 45, _ => exact h29
  | 46, _ => exact h30
  | 47, _ => exact h35
  | 48, _ => exact va_at.refs h36 (fun j hj => by match j, hj with | 0, _ => exact rfl | 1, _ => exact rfl | 2, _ => exact rfl | 3, _ => exact rfl | n + 4, h => exact absurd h (by omega))
  | 49, _ => exact h39
  | 50, _ => exact h40
  | 51, _ => exact h41
  | 52, _ => exact h42
  | 53, _ => exact h37
  | 54, _ => exact h38
  | 55, _ => exact h43
  | 56, _ => exact va_at.refs h44 (fun j hj => by match j, hj with | 0, _ => exact rfl | 1, _ => exact rfl | 2, _ => exact rfl | 3, _ => exact rfl | n + 4, h => exact absurd h (by omega))
  | 57, _ => exact h47
  | 58, _ => exact h48
  | 59, _ => exact h49
  | 60, _ => exact h50
  | 61, _ => exact h45
  | 62, _ => exact h46
  | 63, _ => exact h51
  | 64, _ => exact va_at.refs h52 (fun j hj => by match j, hj with | 0, _ => exact rfl | 1, _ => exact rfl | 2, _ => exact rfl | 3, _ => exact rfl | n + 4, h => exact absurd h (by omega))
  | 65, _ => exact h55
  | 66, _ => exact h56
  | 67, _ => exact h57
  | 68, _ => exact h58
  | 69, _ => exact h53
  | 70, _ => exact h54
  | 71, _ => exact h59
  | 72, _ => exact va_at.refs h60 (fun j hj => by match j, hj with | 0, _ => exact rfl | 1, _ => exact rfl | 2, _ => exact rfl | 3, _ => exact rfl | n + 4, h => exact absurd h (by omega))
  | 73, _ => exact h63
  | 74, _ => exact h64
  | 75, _ => exact h65
  | 76, _ => exact h66
  | 77, _ => exact h61
  | 78, _ => exact h62
  | 79, _ => exact h67
  | 80, _ => exact va_at.refs h68 (fun j hj => by match j, hj with | 0, _ => exact rfl | 1, _ => exact rfl | 2, _ => exact rfl | 3, _ => exact rfl | n + 4, h => exact absurd h (by omega))
  | 81, _ => exact h71
  | 82, _ => exact h72
  | 83, _ => exact h73
  | 84, _ => exact h74
  | 85, _ => exact h69
  | 86, _ => exact h70
  | 87, _ => exact h86
  | 88, _ => exact va_at.refs h87 (fun j hj => by match j, hj with | 0, _ => exact rfl | 1, _ => exact rfl | 2, _ => exact rfl | 3, _ => exact rfl | n + 4, h => exact absurd h (by omega))
  | 89, _ => exact h90
  | 90, _ => exact h91
  | 91, _ => exact h92
  | 92, _ => exact h93
  | 93, _ => exact h88
  | 94, _ => exact h89
  | 95, _ => exact h95
  | 96, _ => exact va_at.refs h96 (fun j hj => by match j, hj with | 0, _ => exact rfl | 1, _ => exact rfl | 2, _ => exact rfl | 3, _ => exact rfl | n + 4, h => exact absurd h (by omega))
  | 97, _ => exact h99
  | 98, _ => exact h100
  | 99, _ => exact h101
  | 100, _ => exact h102
  | 101, _ => exact h97
  | 102, _ => exact h98
  | n + 103, h => exact absurd h (by omega)
set_option maxHeartbeats 4000000 in
set_option maxRecDepth 100000 in
theorem start_addr {ac : Nat → ClassId} {q : Nat} {u : Nat → Nat → Nat} : ∀ i, i < 103 → ∃ e, (wFlat ac q u)[pmI.getD i 0]? = some (LI q u i, e) := by
  intro i hi
  match i, hi with
  | 0, _ => exact ⟨_, show (wFlat ac q u)[0]? = _ from rfl⟩
  | 1, _ => exact ⟨_, show (wFlat ac q u)[25]? = _ from rfl⟩
  | 2, _ => exact ⟨_, show (wFlat ac q u)[26]? = _ from rfl⟩
  | 3, _ => exact ⟨_, show (wFlat ac q u)[75]? = _ from rfl⟩
  | 4, _ => exact ⟨_, show (wFlat ac q u)[85]? = _ from rfl⟩
  | 5, _ => exact ⟨_, show (wFlat ac q u)[94]? = _ from rfl⟩
  | 6, _ => exact ⟨_, show (wFlat ac q u)[76]? = _ from rfl⟩
  | 7, _ => exact ⟨_, show (wFlat ac q u)[77]? = _ from rfl⟩
  | 8, _ => exact ⟨_, show (wFlat ac q u)[78]? = _ from rfl⟩
  | 9, _ => exact ⟨_, show (wFlat ac q u)[79]? = _ from rfl⟩
  | 10, _ => exact ⟨_, show (wFlat ac q u)[80]? = _ from rfl⟩
  | 11, _ => exact ⟨_, show (wFlat ac q u)[81]? = _ from rfl⟩
  | 12, _ => exact ⟨_, show (wFlat ac q u)[82]? = _ from rfl⟩
  | 13, _ => exact ⟨_, show (wFlat ac q u)[83]? = _ from rfl⟩
  | 14, _ => exact ⟨_, show (wFlat ac q u)[84]? = _ from rfl⟩
  | 15, _ => exact ⟨_, show (wFlat ac q u)[1]? = _ from rfl⟩
  | 16, _ => exact ⟨_, show (wFlat ac q u)[2]? = _ from rfl⟩
  | 17, _ => exact ⟨_, show (wFlat ac q u)[5]? = _ from rfl⟩
  | 18, _ => exact ⟨_, show (wFlat ac q u)[6]? = _ from rfl⟩
  | 19, _ => exact ⟨_, show (wFlat ac q u)[7]? = _ from rfl⟩
  | 20, _ => exact ⟨_, show (wFlat ac q u)[8]? = _ from rfl⟩
  | 21, _ => exact ⟨_, show (wFlat ac q u)[3]? = _ from rfl⟩
  | 22, _ => exact ⟨_, show (wFlat ac q u)[4]? = _ from rfl⟩
  | 23, _ => exact ⟨_, show (wFlat ac q u)[9]? = _ from rfl⟩
  | 24, _ => exact ⟨_, show (wFlat ac q u)[10]? = _ from rfl⟩
  | 25, _ => exact ⟨_, show (wFlat ac q u)[13]? = _ from rfl⟩
  | 26, _ => exact ⟨_, show (wFlat ac q u)[14]? = _ from rfl⟩
  | 27, _ => exact ⟨_, show (wFlat ac q u)[15]? = _ from rfl⟩
  | 28, _ => exact ⟨_, show (wFlat ac q u)[16]? = _ from rfl⟩
  | 29, _ => exact ⟨_, show (wFlat ac q u)[11]? = _ from rfl⟩
  | 30, _ => exact ⟨_, show (wFlat ac q u)[12]? = _ from rfl⟩
  | 31, _ => exact ⟨_, show (wFlat ac q u)[17]? = _ from rfl⟩
  | 32, _ => exact ⟨_, show (wFlat ac q u)[18]? = _ from rfl⟩
  | 33, _ => exact ⟨_, show (wFlat ac q u)[21]? = _ from rfl⟩
  | 34, _ => exact ⟨_, show (wFlat ac q u)[22]? = _ from rfl⟩
  | 35, _ => exact ⟨_, show (wFlat ac q u)[23]? = _ from rfl⟩
  | 36, _ => exact ⟨_, show (wFlat ac q u)[24]? = _ from rfl⟩
  | 37, _ => exact ⟨_, show (wFlat ac q u)[19]? = _ from rfl⟩
  | 38, _ => exact ⟨_, show (wFlat ac q u)[20]? = _ from rfl⟩
  | 39, _ => exact ⟨_, show (wFlat ac q u)[27]? = _ from rfl⟩
  | 40, _ => exact ⟨_, show (wFlat ac q u)[28]? = _ from rfl⟩
  | 41, _ => exact ⟨_, show (wFlat ac q u)[31]? = _ from rfl⟩
  | 42, _ => exact ⟨_, show (wFlat ac q u)[32]? = _ from rfl⟩
  | 43, _ => exact ⟨_, show (wFlat ac q u)[33]? = _ from rfl⟩
  | 44, _ => exact ⟨_, show (wFlat ac q u)[34]? = _ from rfl⟩
  | 45, _ => exact ⟨_, show (wFlat ac q u)[29]? = _ from rfl⟩
  | 46, _ => exact ⟨_, show (wFlat ac q u)[30]? = _ from rfl⟩
  | 47, _ => exact ⟨_, show (wFlat ac q u)[35]? = _ from rfl⟩
  | 48, _ => exact ⟨_, show (wFlat ac q u)[36]? = _ from rfl⟩
  | 49, _ => exact ⟨_, show (wFlat ac q u)[39]? = _ from rfl⟩
  | 50, _ => exact ⟨_, show (wFlat ac q u)[40]? = _ from rfl⟩
  | 51, _ => exact ⟨_, show (wFlat ac q u)[41]? = _ from rfl⟩
  | 52, _ => exact ⟨_, show (wFlat ac q u)[42]? = _ from rfl⟩
  | 53, _ => exact ⟨_, show (wFlat ac q u)[37]? = _ from rfl⟩
  | 54, _ => exact ⟨_, show (wFlat ac q u)[38]? = _ from rfl⟩
  | 55, _ => exact ⟨_, show (wFlat ac q u)[43]? = _ from rfl⟩
  | 56, _ => exact ⟨_, show (wFlat ac q u)[44]? = _ from rfl⟩
  | 57, _ => exact ⟨_, show (wFlat ac q u)[47]? = _ from rfl⟩
  | 58, _ => exact ⟨_, show (wFlat ac q u)[48]? = _ from rfl⟩
  | 59, _ => exact ⟨_, show (wFlat ac q u)[49]? = _ from rfl⟩
  | 60, _ => exact ⟨_, show (wFlat ac q u)[50]? = _ from rfl⟩
  | 61, _ => exact ⟨_, show (wFlat ac q u)[45]? = _ from rfl⟩
  | 62, _ => exact ⟨_, show (wFlat ac q u)[46]? = _ from rfl⟩
  | 63, _ => exact ⟨_, show (wFlat ac q u)[51]? = _ from rfl⟩
  | 64, _ => exact ⟨_, show (wFlat ac q u)[52]? = _ from rfl⟩
  | 65, _ => exact ⟨_, show (wFlat ac q u)[55]? = _ from rfl⟩
  | 66, _ => exact ⟨_, show (wFlat ac q u)[56]? = _ from rfl⟩
  | 67, _ => exact ⟨_, show (wFlat ac q u)[57]? = _ from rfl⟩
  | 68, _ => exact ⟨_, show (wFlat ac q u)[58]? = _ from rfl⟩
  | 69, _ => exact ⟨_, show (wFlat ac q u)[53]? = _ from rfl⟩
  | 70, _ => exact ⟨_, show (wFlat ac q u)[54]? = _ from rfl⟩
  | 71, _ => exact ⟨_, show (wFlat ac q u)[59]? = _ from rfl⟩
  | 72, _ => exact ⟨_, show (wFlat ac q u)[60]? = _ from rfl⟩
  | 73, _ => exact ⟨_, show (wFlat ac q u)[63]? = _ from rfl⟩
  | 74, _ => exact ⟨_, show (wFlat ac q u)[64]? = _ from rfl⟩
  | 75, _ => exact ⟨_, show (wFlat ac q u)[65]? = _ from rfl⟩
  | 76, _ => exact ⟨_, show (wFlat ac q u)[66]? = _ from rfl⟩
  | 77, _ => exact ⟨_, show (wFlat ac q u)[61]? = _ from rfl⟩
  | 78, _ => exact ⟨_, show (wFlat ac q u)[62]? = _ from rfl⟩
  | 79, _ => exact ⟨_, show (wFlat ac q u)[67]? = _ from rfl⟩
  | 80, _ => exact ⟨_, show (wFlat ac q u)[68]? = _ from rfl⟩
  | 81, _ => exact ⟨_, show (wFlat ac q u)[71]? = _ from rfl⟩
  | 82, _ => exact ⟨_, show (wFlat ac q u)[72]? = _ from rfl⟩
  | 83, _ => exact ⟨_, show (wFlat ac q u)[73]? = _ from rfl⟩
  | 84, _ => exact ⟨_, show (wFlat ac q u)[74]? = _ from rfl⟩
  | 85, _ => exact ⟨_, show (wFlat ac q u)[69]? = _ from rfl⟩
  | 86, _ => exact ⟨_, show (wFlat ac q u)[70]? = _ from rfl⟩
  | 87, _ => exact ⟨_, show (wFlat ac q u)[86]? = _ from rfl⟩
  | 88, _ => exact ⟨_, show (wFlat ac q u)[87]? = _ from rfl⟩
  | 89, _ => exact ⟨_, show (wFlat ac q u)[90]? = _ from rfl⟩
  | 90, _ => exact ⟨_, show (wFlat ac q u)[91]? = _ from rfl⟩
  | 91, _ => exact ⟨_, show (wFlat ac q u)[92]? = _ from rfl⟩
  | 92, _ => exact ⟨_, show (wFlat ac q u)[93]? = _ from rfl⟩
  | 93, _ => exact ⟨_, show (wFlat ac q u)[88]? = _ from rfl⟩
  | 94, _ => exact ⟨_, show (wFlat ac q u)[89]? = _ from rfl⟩
  | 95, _ => exact ⟨_, show (wFlat ac q u)[95]? = _ from rfl⟩
  | 96, _ => exact ⟨_, show (wFlat ac q u)[96]? = _ from rfl⟩
  | 97, _ => exact ⟨_, show (wFlat ac q u)[99]? = _ from rfl⟩
  | 98, _ => exact ⟨_, show (wFlat ac q u)[100]? = _ from rfl⟩
  | 99, _ => exact ⟨_, show (wFlat ac q u)[101]? = _ from rfl⟩
  | 100, _ => exact ⟨_, show (wFlat ac q u)[102]? = _ from rfl⟩
  | 101, _ => exact ⟨_, show (wFlat ac q u)[97]? = _ from rfl⟩
  | 102, _ => exact ⟨_, show (wFlat ac q u)[98]? = _ from rfl⟩
  | n + 103, h => exact absurd h (by omega)
theorem start_Oh {D : va_G} {ac : Nat → ClassId} {H H0 : Heap} {locs : List Loc} {A : Nat → Prop} {q : Nat} {u : Nat → Nat → Nat} (hP : va_P D vwCl (wFlat ac q u) H) (hS : va_S A H0 H locs) : Oh D (LI q u) ac XI A H0 H locs := by
  refine ⟨fun k x hk => ?_, fun k hk => ?_, hS⟩
  · have hl : k < 103 := by
      have := (List.getElem?_eq_some_iff.mp hk).1
      simpa [fw] using this
    rw [fw_at hl rfl] at hk
    cases hk
    exact start_cells hP k hl
  · show xun (nI (k + 3)) < 11
    rw [show xun (nI (k + 3)) = k + 3 from pk_tn (by omega)]
    omega
theorem start_LL {A : Nat → Prop} {ac : Nat → ClassId} {q : Nat} {u : Nat → Nat → Nat} (hD : va_D A (wFlat ac q u)) : LL (LI q u) ∧ ∀ x, fr (LI q u) x → A x := by
  refine ⟨fun i j hi hj h => ?_, fun x hx => ?_⟩
  · obtain ⟨e1, h1⟩ := start_addr (ac := ac) (q := q) (u := u) i hi
    obtain ⟨e2, h2⟩ := start_addr (ac := ac) (q := q) (u := u) j hj
    exact pmI_inj i hi j hj (hD.1 _ _ _ _ h1 h2 h)
  · obtain ⟨i, hi, rfl⟩ := hx
    obtain ⟨e1, h1⟩ := start_addr (ac := ac) (q := q) (u := u) i hi
    exact hD.2 _ _ h1
