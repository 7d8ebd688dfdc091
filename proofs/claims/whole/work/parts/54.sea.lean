/-! the class's Search -/
section SA
variable {A A1 A2 A3 A4 A5 A6 : LH} {q r x y qh qw : Option Nat} {v0 v1 v2 v3 i n u v w z a b o : Int32}
theorem wt_44 (N : Nat) (h1 : gI A q 4 2 = some n) (h2 : ¬ 200 ≤ n) (h3 : gR A q 4 0 = some qh) (h4 : sI A qh 0 n v1 = some A1) (h5 : gR A1 q 4 1 = some qw) (h6 : gI A1 q 4 2 = some n) (h7 : sI A1 qw 0 n v2 = some A2) (h8 : gI A2 q 4 2 = some n) (h9 : pF A2 q 4 2 (LI (n + 1)) = some A3) : b_X4_want_44 N A q v1 v2 = some A3 := by
  unfold b_X4_want_44
  (repeat (first | with_reducible rfl | refine (bnd_eq (by first | with_reducible assumption)).trans ?_ | refine (if_pos (by first | with_reducible assumption | with_reducible rfl | decide | (dsimp only; first | with_reducible assumption | with_reducible rfl | decide))).trans ?_ | refine (if_neg (by first | with_reducible assumption | decide | (dsimp only; first | with_reducible assumption | decide))).trans ?_))
theorem wt_end (N m : Nat) (h1 : gI A q 4 2 = some n) (h2 : n ≤ i) : l_X4_want_2 N (m + 1) A q v1 v2 i = b_X4_want_44 N A q v1 v2 := by
  show b_X4_want_2 N _ A q v1 v2 i = _
  unfold b_X4_want_2
  (repeat (first | with_reducible rfl | refine (bnd_eq (by first | with_reducible assumption)).trans ?_ | refine (if_pos (by first | with_reducible assumption | with_reducible rfl | decide | (dsimp only; first | with_reducible assumption | with_reducible rfl | decide))).trans ?_ | refine (if_neg (by first | with_reducible assumption | decide | (dsimp only; first | with_reducible assumption | decide))).trans ?_))
theorem wt_hit (N m : Nat) (h1 : gI A q 4 2 = some n) (h2 : ¬ n ≤ i) (h3 : ¬ 200 ≤ i) (h4 : gR A q 4 0 = some qh) (h5 : aI A qh 0 i = some a) (h6 : a = v1) (h7 : gR A q 4 1 = some qw) (h8 : aI A qw 0 i = some b) (h9 : b = v2) : l_X4_want_2 N (m + 1) A q v1 v2 i = some A := by
  show b_X4_want_2 N _ A q v1 v2 i = _
  unfold b_X4_want_2
  (repeat (first | with_reducible rfl | refine (bnd_eq (by first | with_reducible assumption)).trans ?_ | refine (if_pos (by first | with_reducible assumption | with_reducible rfl | decide | (dsimp only; first | with_reducible assumption | with_reducible rfl | decide))).trans ?_ | refine (if_neg (by first | with_reducible assumption | decide | (dsimp only; first | with_reducible assumption | decide))).trans ?_))
theorem wt_n1 (N m : Nat) (h1 : gI A q 4 2 = some n) (h2 : ¬ n ≤ i) (h3 : ¬ 200 ≤ i) (h4 : gR A q 4 0 = some qh) (h5 : aI A qh 0 i = some a) (h6 : ¬ a = v1) : l_X4_want_2 N (m + 1) A q v1 v2 i = l_X4_want_2 N m A q v1 v2 (i + 1) := by
  show b_X4_want_2 N _ A q v1 v2 i = _
  unfold b_X4_want_2
  (repeat (first | with_reducible rfl | refine (bnd_eq (by first | with_reducible assumption)).trans ?_ | refine (if_pos (by first | with_reducible assumption | with_reducible rfl | decide | (dsimp only; first | with_reducible assumption | with_reducible rfl | decide))).trans ?_ | refine (if_neg (by first | with_reducible assumption | decide | (dsimp only; first | with_reducible assumption | decide))).trans ?_))
theorem wt_n2 (N m : Nat) (h1 : gI A q 4 2 = some n) (h2 : ¬ n ≤ i) (h3 : ¬ 200 ≤ i) (h4 : gR A q 4 0 = some qh) (h5 : aI A qh 0 i = some a) (h6 : a = v1) (h7 : gR A q 4 1 = some qw) (h8 : aI A qw 0 i = some b) (h9 : ¬ b = v2) : l_X4_want_2 N (m + 1) A q v1 v2 i = l_X4_want_2 N m A q v1 v2 (i + 1) := by
  show b_X4_want_2 N _ A q v1 v2 i = _
  unfold b_X4_want_2
  (repeat (first | with_reducible rfl | refine (bnd_eq (by first | with_reducible assumption)).trans ?_ | refine (if_pos (by first | with_reducible assumption | with_reducible rfl | decide | (dsimp only; first | with_reducible assumption | with_reducible rfl | decide))).trans ?_ | refine (if_neg (by first | with_reducible assumption | decide | (dsimp only; first | with_reducible assumption | decide))).trans ?_))
theorem lh_end (N m : Nat) (h1 : gR A r 3 1 = some x) (h2 : ln6 A x = some n) (h3 : n ≤ i) : l_X9_linesHeld_4 N (m + 1) A q r v i = some (v, A) := by
  show b_X9_linesHeld_4 N _ A q r v i = _
  unfold b_X9_linesHeld_4
  (repeat (first | with_reducible rfl | refine (bnd_eq (by first | with_reducible assumption)).trans ?_ | refine (if_pos (by first | with_reducible assumption | with_reducible rfl | decide | (dsimp only; first | with_reducible assumption | with_reducible rfl | decide))).trans ?_ | refine (if_neg (by first | with_reducible assumption | decide | (dsimp only; first | with_reducible assumption | decide))).trans ?_))
theorem lh_0 (N m : Nat) (h1 : gR A r 3 1 = some x) (h2 : ln6 A x = some n) (h3 : ¬ n ≤ i) (h4 : aR A x 3 i = some y) (h5 : f_X9_hoursHeld N A q y = some (w, A1)) (h6 : gI A1 q 9 5 = some z) (h7 : f_X10_hasBit w z = some 0) : l_X9_linesHeld_4 N (m + 1) A q r v i = l_X9_linesHeld_4 N m A1 q r v (i + 1) := by
  show b_X9_linesHeld_4 N _ A q r v i = _
  unfold b_X9_linesHeld_4
  (repeat (first | with_reducible rfl | refine (bnd_eq (by first | with_reducible assumption)).trans ?_ | refine (if_pos (by first | with_reducible assumption | with_reducible rfl | decide | (dsimp only; first | with_reducible assumption | with_reducible rfl | decide))).trans ?_ | refine (if_neg (by first | with_reducible assumption | decide | (dsimp only; first | with_reducible assumption | decide))).trans ?_))
theorem lh_1 (N m : Nat) (h1 : gR A r 3 1 = some x) (h2 : ln6 A x = some n) (h3 : ¬ n ≤ i) (h4 : aR A x 3 i = some y) (h5 : f_X9_hoursHeld N A q y = some (w, A1)) (h6 : gI A1 q 9 5 = some z) (h7 : f_X10_hasBit w z = some 1) : l_X9_linesHeld_4 N (m + 1) A q r v i = l_X9_linesHeld_4 N m A1 q r (v ||| ((1 : Int32) <<< (i &&& 31))) (i + 1) := by
  show b_X9_linesHeld_4 N _ A q r v i = _
  unfold b_X9_linesHeld_4
  (repeat (first | with_reducible rfl | refine (bnd_eq (by first | with_reducible assumption)).trans ?_ | refine (if_pos (by first | with_reducible assumption | with_reducible rfl | decide | (dsimp only; first | with_reducible assumption | with_reducible rfl | decide))).trans ?_ | refine (if_neg (by first | with_reducible assumption | decide | (dsimp only; first | with_reducible assumption | decide))).trans ?_))
theorem aa_end (N m : Nat) (h1 : gI A q 4 2 = some n) (h2 : n ≤ i) : l_X4_allAsMarked_12 N A (m + 1) q v i = some 1 := by
  show b_X4_allAsMarked_12 N A _ q v i = _
  unfold b_X4_allAsMarked_12
  (repeat (first | with_reducible rfl | refine (bnd_eq (by first | with_reducible assumption)).trans ?_ | refine (if_pos (by first | with_reducible assumption | with_reducible rfl | decide | (dsimp only; first | with_reducible assumption | with_reducible rfl | decide))).trans ?_ | refine (if_neg (by first | with_reducible assumption | decide | (dsimp only; first | with_reducible assumption | decide))).trans ?_))
theorem aa_st (N m : Nat) (h1 : gI A q 4 2 = some n) (h2 : ¬ n ≤ i) (h3 : ¬ 200 ≤ i) (h4 : gR A q 4 0 = some qh) (h5 : aI A qh 0 i = some a) (h6 : gI A q 4 6 = some o) (bb : Bool) (h7 : f_X4_isLet A q (a &&& (o ^^^ (-1))) v = some (b01 bb)) (h8 : gR A q 4 1 = some qw) (h9 : aI A qw 0 i = some b) : l_X4_allAsMarked_12 N A (m + 1) q v i = if bb = (b == 1) then l_X4_allAsMarked_12 N A m q v (i + 1) else some 0 := by
  have key : ∀ c : Bool, b_X4_allAsMarked_60 N A (l_X4_allAsMarked_12 N A m) q v i (b01 c) (b01 bb) = if bb = c then l_X4_allAsMarked_12 N A m q v (i + 1) else some 0 := by
    intro c
    unfold b_X4_allAsMarked_60
    cases bb <;> cases c <;> first | exact if_pos rfl | exact if_neg (by decide)
  show b_X4_allAsMarked_12 N A _ q v i = _
  unfold b_X4_allAsMarked_12
  by_cases hb : b = 1
  · have e : (b == 1) = true := by simp [hb]
    rw [e]
    (repeat (first | with_reducible rfl | refine (bnd_eq (by first | with_reducible assumption)).trans ?_ | refine (if_pos (by first | with_reducible assumption | with_reducible rfl | decide | (dsimp only; first | with_reducible assumption | with_reducible rfl | decide))).trans ?_ | refine (if_neg (by first | with_reducible assumption | decide | (dsimp only; first | with_reducible assumption | decide))).trans ?_))
    exact key true
  · have e : (b == 1) = false := by simp [hb]
    rw [e]
    (repeat (first | with_reducible rfl | refine (bnd_eq (by first | with_reducible assumption)).trans ?_ | refine (if_pos (by first | with_reducible assumption | with_reducible rfl | decide | (dsimp only; first | with_reducible assumption | with_reducible rfl | decide))).trans ?_ | refine (if_neg (by first | with_reducible assumption | decide | (dsimp only; first | with_reducible assumption | decide))).trans ?_))
    exact key false
theorem aa_ab (N : Nat) (h0 : isO A q 4 = true) (h1 : gI A q 4 5 = some a) (h2 : gI A q 4 7 = some b) (bb : Bool) (h3 : l_X4_allAsMarked_12 N A N q (a ^^^ b) 0 = some (b01 bb)) : f_X4_allAsMarked N A q = some (b01 bb) := by
  unfold f_X4_allAsMarked
  rw [if_pos h0, show b_X4_allAsMarked N A q = some (b01 bb) by unfold b_X4_allAsMarked; exact (bnd_eq h1).trans ((bnd_eq h2).trans h3)]
  exact zd_b bb
theorem fs_end (N m : Nat) {kE : LH → Option Nat → Int32 → Int32 → Option (Int32 × LH)} (h1 : gI A q 4 4 = some n) (h2 : n ≤ i) : l_X4_finds_11 N kE (m + 1) A q v1 i = some (0, A) := by
  show b_X4_finds_11 N kE _ A q v1 i = _
  unfold b_X4_finds_11
  (repeat (first | with_reducible rfl | refine (bnd_eq (by first | with_reducible assumption)).trans ?_ | refine (if_pos (by first | with_reducible assumption | with_reducible rfl | decide | (dsimp only; first | with_reducible assumption | with_reducible rfl | decide))).trans ?_ | refine (if_neg (by first | with_reducible assumption | decide | (dsimp only; first | with_reducible assumption | decide))).trans ?_))
theorem fs_1 (N m : Nat) {kE : LH → Option Nat → Int32 → Int32 → Option (Int32 × LH)} (h1 : gI A q 4 4 = some n) (h2 : ¬ n ≤ i) (h3 : gI A q 4 6 = some a) (h4 : pF A q 4 6 (LI (a ||| ((1 : Int32) <<< (i &&& 31)))) = some A1) (h5 : kE A1 q (v1 - 1) (i + 1) = some (1, A2)) : l_X4_finds_11 N kE (m + 1) A q v1 i = some (1, A2) := by
  show b_X4_finds_11 N kE _ A q v1 i = _
  unfold b_X4_finds_11
  (repeat (first | with_reducible rfl | refine (bnd_eq (by first | with_reducible assumption)).trans ?_ | refine (if_pos (by first | with_reducible assumption | with_reducible rfl | decide | (dsimp only; first | with_reducible assumption | with_reducible rfl | decide))).trans ?_ | refine (if_neg (by first | with_reducible assumption | decide | (dsimp only; first | with_reducible assumption | decide))).trans ?_))
theorem fs_2 (N m : Nat) {kE : LH → Option Nat → Int32 → Int32 → Option (Int32 × LH)} (h1 : gI A q 4 4 = some n) (h2 : ¬ n ≤ i) (h3 : gI A q 4 6 = some a) (h4 : pF A q 4 6 (LI (a ||| ((1 : Int32) <<< (i &&& 31)))) = some A1) (h5 : kE A1 q (v1 - 1) (i + 1) = some (0, A2)) (h6 : gI A2 q 4 6 = some b) (h7 : pF A2 q 4 6 (LI (b &&& (((1 : Int32) <<< (i &&& 31)) ^^^ (-1)))) = some A3) (h8 : gI A3 q 4 7 = some u) (h9 : pF A3 q 4 7 (LI (u ||| ((1 : Int32) <<< (i &&& 31)))) = some A4) (h10 : kE A4 q (v1 - 1) (i + 1) = some (1, A5)) : l_X4_finds_11 N kE (m + 1) A q v1 i = some (1, A5) := by
  show b_X4_finds_11 N kE _ A q v1 i = _
  unfold b_X4_finds_11
  (repeat (first | with_reducible rfl | refine (bnd_eq (by first | with_reducible assumption)).trans ?_ | refine (if_pos (by first | with_reducible assumption | with_reducible rfl | decide | (dsimp only; first | with_reducible assumption | with_reducible rfl | decide))).trans ?_ | refine (if_neg (by first | with_reducible assumption | decide | (dsimp only; first | with_reducible assumption | decide))).trans ?_))
theorem fs_3 (N m : Nat) {kE : LH → Option Nat → Int32 → Int32 → Option (Int32 × LH)} (h1 : gI A q 4 4 = some n) (h2 : ¬ n ≤ i) (h3 : gI A q 4 6 = some a) (h4 : pF A q 4 6 (LI (a ||| ((1 : Int32) <<< (i &&& 31)))) = some A1) (h5 : kE A1 q (v1 - 1) (i + 1) = some (0, A2)) (h6 : gI A2 q 4 6 = some b) (h7 : pF A2 q 4 6 (LI (b &&& (((1 : Int32) <<< (i &&& 31)) ^^^ (-1)))) = some A3) (h8 : gI A3 q 4 7 = some u) (h9 : pF A3 q 4 7 (LI (u ||| ((1 : Int32) <<< (i &&& 31)))) = some A4) (h10 : kE A4 q (v1 - 1) (i + 1) = some (0, A5)) (h11 : gI A5 q 4 7 = some w) (h12 : pF A5 q 4 7 (LI (w &&& (((1 : Int32) <<< (i &&& 31)) ^^^ (-1)))) = some A6) : l_X4_finds_11 N kE (m + 1) A q v1 i = l_X4_finds_11 N kE m A6 q v1 (i + 1) := by
  show b_X4_finds_11 N kE _ A q v1 i = _
  unfold b_X4_finds_11
  (repeat (first | with_reducible rfl | refine (bnd_eq (by first | with_reducible assumption)).trans ?_ | refine (if_pos (by first | with_reducible assumption | with_reducible rfl | decide | (dsimp only; first | with_reducible assumption | with_reducible rfl | decide))).trans ?_ | refine (if_neg (by first | with_reducible assumption | decide | (dsimp only; first | with_reducible assumption | decide))).trans ?_))
theorem fi_0 (N d : Nat) (h0 : isO A q 4 = true) (h1 : ¬ 0 < v1) (bb : Bool) (h2 : f_X4_allAsMarked N A q = some (b01 bb)) : F_X4_finds N (d + 1) A q v1 v2 = some (b01 bb, A) := by
  show f_X4_finds N (F_X4_finds N d) A q v1 v2 = _
  unfold f_X4_finds
  rw [if_pos h0, show b_X4_finds N (F_X4_finds N d) A q v1 v2 = some (b01 bb, A) by unfold b_X4_finds; exact (if_neg h1).trans ((bnd_eq h2).trans rfl)]
  exact zc_b bb A
theorem fi_1 (N d : Nat) (h0 : isO A q 4 = true) (h1 : 0 < v1) (bb : Bool) (h2 : l_X4_finds_11 N (F_X4_finds N d) N A q v1 v2 = some (b01 bb, A1)) : F_X4_finds N (d + 1) A q v1 v2 = some (b01 bb, A1) := by
  show f_X4_finds N (F_X4_finds N d) A q v1 v2 = _
  unfold f_X4_finds
  rw [if_pos h0, show b_X4_finds N (F_X4_finds N d) A q v1 v2 = some (b01 bb, A1) by unfold b_X4_finds; exact (if_pos h1).trans h2]
  exact zc_b bb A1
theorem fw_end (N m : Nat) (h1 : 3 < v1) : l_X4_fewest_2 N (m + 1) A q v1 = some (-1, A) := by
  show b_X4_fewest_2 N _ A q v1 = _
  unfold b_X4_fewest_2
  (repeat (first | with_reducible rfl | refine (bnd_eq (by first | with_reducible assumption)).trans ?_ | refine (if_pos (by first | with_reducible assumption | with_reducible rfl | decide | (dsimp only; first | with_reducible assumption | with_reducible rfl | decide))).trans ?_ | refine (if_neg (by first | with_reducible assumption | decide | (dsimp only; first | with_reducible assumption | decide))).trans ?_))
theorem fw_hit (N m : Nat) (h1 : ¬ 3 < v1) (h2 : pF A q 4 6 (LI 0) = some A1) (h3 : pF A1 q 4 7 (LI 0) = some A2) (h4 : F_X4_finds N 8 A2 q v1 0 = some (1, A3)) : l_X4_fewest_2 N (m + 1) A q v1 = some (v1, A3) := by
  show b_X4_fewest_2 N _ A q v1 = _
  unfold b_X4_fewest_2
  (repeat (first | with_reducible rfl | refine (bnd_eq (by first | with_reducible assumption)).trans ?_ | refine (if_pos (by first | with_reducible assumption | with_reducible rfl | decide | (dsimp only; first | with_reducible assumption | with_reducible rfl | decide))).trans ?_ | refine (if_neg (by first | with_reducible assumption | decide | (dsimp only; first | with_reducible assumption | decide))).trans ?_))
theorem fw_go (N m : Nat) (h1 : ¬ 3 < v1) (h2 : pF A q 4 6 (LI 0) = some A1) (h3 : pF A1 q 4 7 (LI 0) = some A2) (h4 : F_X4_finds N 8 A2 q v1 0 = some (0, A3)) : l_X4_fewest_2 N (m + 1) A q v1 = l_X4_fewest_2 N m A3 q (v1 + 1) := by
  show b_X4_fewest_2 N _ A q v1 = _
  unfold b_X4_fewest_2
  (repeat (first | with_reducible rfl | refine (bnd_eq (by first | with_reducible assumption)).trans ?_ | refine (if_pos (by first | with_reducible assumption | with_reducible rfl | decide | (dsimp only; first | with_reducible assumption | with_reducible rfl | decide))).trans ?_ | refine (if_neg (by first | with_reducible assumption | decide | (dsimp only; first | with_reducible assumption | decide))).trans ?_))
theorem il_1 {p : Int32} (h0 : isO A q 4 = true) (h1 : gI A q 4 3 = some 1) (h2 : f_J6_highestOneBit_0f7a4 v1 = some p) (bb : Bool) (hb : bb = false ↔ p &&& v2 = 0) : f_X4_isLet A q v1 v2 = some (b01 bb) := by
  unfold f_X4_isLet
  rw [if_pos h0, show b_X4_isLet A q v1 v2 = some (b01 bb) by
    unfold b_X4_isLet
    cases bb with
    | true =>
      have hx : ¬ p &&& v2 = 0 := fun z => Bool.noConfusion (hb.mpr z)
      show _ = some (1 : Int32)
      (repeat (first | with_reducible rfl | refine (bnd_eq (by first | with_reducible assumption)).trans ?_ | refine (if_pos (by first | with_reducible assumption | with_reducible rfl | decide | (dsimp only; first | with_reducible assumption | with_reducible rfl | decide))).trans ?_ | refine (if_neg (by first | with_reducible assumption | decide | (dsimp only; first | with_reducible assumption | decide))).trans ?_))
    | false =>
      have hx := hb.mp rfl
      show _ = some (0 : Int32)
      (repeat (first | with_reducible rfl | refine (bnd_eq (by first | with_reducible assumption)).trans ?_ | refine (if_pos (by first | with_reducible assumption | with_reducible rfl | decide | (dsimp only; first | with_reducible assumption | with_reducible rfl | decide))).trans ?_ | refine (if_neg (by first | with_reducible assumption | decide | (dsimp only; first | with_reducible assumption | decide))).trans ?_))]
  exact zd_b bb
theorem il_2 (h0 : isO A q 4 = true) (h1 : gI A q 4 3 = some 2) (bb : Bool) (hb : bb = true ↔ ¬ v1 = 0 ∧ v1 &&& (v2 ^^^ (-1)) = 0) : f_X4_isLet A q v1 v2 = some (b01 bb) := by
  unfold f_X4_isLet
  rw [if_pos h0, show b_X4_isLet A q v1 v2 = some (b01 bb) by
    unfold b_X4_isLet
    cases bb with
    | true =>
      obtain ⟨hx, hy⟩ := hb.mp rfl
      show _ = some (1 : Int32)
      (repeat (first | with_reducible rfl | refine (bnd_eq (by first | with_reducible assumption)).trans ?_ | refine (if_pos (by first | with_reducible assumption | with_reducible rfl | decide | (dsimp only; first | with_reducible assumption | with_reducible rfl | decide))).trans ?_ | refine (if_neg (by first | with_reducible assumption | decide | (dsimp only; first | with_reducible assumption | decide))).trans ?_))
    | false =>
      show _ = some (0 : Int32)
      by_cases hx : v1 = 0
      · (repeat (first | with_reducible rfl | refine (bnd_eq (by first | with_reducible assumption)).trans ?_ | refine (if_pos (by first | with_reducible assumption | with_reducible rfl | decide | (dsimp only; first | with_reducible assumption | with_reducible rfl | decide))).trans ?_ | refine (if_neg (by first | with_reducible assumption | decide | (dsimp only; first | with_reducible assumption | decide))).trans ?_))
      · have hy : ¬ v1 &&& (v2 ^^^ (-1)) = 0 := fun z => Bool.noConfusion (hb.mpr ⟨hx, z⟩)
        (repeat (first | with_reducible rfl | refine (bnd_eq (by first | with_reducible assumption)).trans ?_ | refine (if_pos (by first | with_reducible assumption | with_reducible rfl | decide | (dsimp only; first | with_reducible assumption | with_reducible rfl | decide))).trans ?_ | refine (if_neg (by first | with_reducible assumption | decide | (dsimp only; first | with_reducible assumption | decide))).trans ?_))]
  exact zd_b bb
theorem il_3 (h0 : isO A q 4 = true) (h1 : gI A q 4 3 = some 3) (bb : Bool) (hb : bb = false ↔ v1 &&& v2 = 0) : f_X4_isLet A q v1 v2 = some (b01 bb) := by
  unfold f_X4_isLet
  rw [if_pos h0, show b_X4_isLet A q v1 v2 = some (b01 bb) by
    unfold b_X4_isLet
    cases bb with
    | true =>
      have hx : ¬ v1 &&& v2 = 0 := fun z => Bool.noConfusion (hb.mpr z)
      show _ = some (1 : Int32)
      (repeat (first | with_reducible rfl | refine (bnd_eq (by first | with_reducible assumption)).trans ?_ | refine (if_pos (by first | with_reducible assumption | with_reducible rfl | decide | (dsimp only; first | with_reducible assumption | with_reducible rfl | decide))).trans ?_ | refine (if_neg (by first | with_reducible assumption | decide | (dsimp only; first | with_reducible assumption | decide))).trans ?_))
    | false =>
      have hx := hb.mp rfl
      show _ = some (0 : Int32)
      (repeat (first | with_reducible rfl | refine (bnd_eq (by first | with_reducible assumption)).trans ?_ | refine (if_pos (by first | with_reducible assumption | with_reducible rfl | decide | (dsimp only; first | with_reducible assumption | with_reducible rfl | decide))).trans ?_ | refine (if_neg (by first | with_reducible assumption | decide | (dsimp only; first | with_reducible assumption | decide))).trans ?_))]
  exact zd_b bb
theorem il_0 {p : Int32} (h0 : isO A q 4 = true) (h1 : gI A q 4 3 = some 0) (h2 : f_J6_lowestOneBit_0f7a4 v1 = some p) (bb : Bool) (hb : bb = false ↔ p &&& v2 = 0) : f_X4_isLet A q v1 v2 = some (b01 bb) := by
  unfold f_X4_isLet
  rw [if_pos h0, show b_X4_isLet A q v1 v2 = some (b01 bb) by
    unfold b_X4_isLet
    cases bb with
    | true =>
      have hx : ¬ p &&& v2 = 0 := fun z => Bool.noConfusion (hb.mpr z)
      show _ = some (1 : Int32)
      (repeat (first | with_reducible rfl | refine (bnd_eq (by first | with_reducible assumption)).trans ?_ | refine (if_pos (by first | with_reducible assumption | with_reducible rfl | decide | (dsimp only; first | with_reducible assumption | with_reducible rfl | decide))).trans ?_ | refine (if_neg (by first | with_reducible assumption | decide | (dsimp only; first | with_reducible assumption | decide))).trans ?_))
    | false =>
      have hx := hb.mp rfl
      show _ = some (0 : Int32)
      (repeat (first | with_reducible rfl | refine (bnd_eq (by first | with_reducible assumption)).trans ?_ | refine (if_pos (by first | with_reducible assumption | with_reducible rfl | decide | (dsimp only; first | with_reducible assumption | with_reducible rfl | decide))).trans ?_ | refine (if_neg (by first | with_reducible assumption | decide | (dsimp only; first | with_reducible assumption | decide))).trans ?_))]
  exact zd_b bb
end SA
def hoB (x : Option Nat) : Int32 := match x with
  | none => 0
  | some k => nI (2 ^ k)
theorem hi_64 : ∀ a, a < 64 → ∀ b, b < 64 → f_J6_highestOneBit_0f7a4 (nI (64 * a + b)) = some (hoB ((List.range 12).reverse.find? (64 * a + b).testBit)) := by decide +kernel
theorem lo_64 : ∀ a, a < 64 → ∀ b, b < 64 → f_J6_lowestOneBit_0f7a4 (nI (64 * a + b)) = some (hoB ((List.range 12).find? (64 * a + b).testBit)) := by decide +kernel
theorem hi_12 (x : Nat) (h : x < 4096) : f_J6_highestOneBit_0f7a4 (nI x) = some (hoB ((List.range 12).reverse.find? x.testBit)) := by
  have := hi_64 (x / 64) (by omega) (x % 64) (by omega)
  rwa [show 64 * (x / 64) + x % 64 = x by omega] at this
theorem lo_12 (x : Nat) (h : x < 4096) : f_J6_lowestOneBit_0f7a4 (nI x) = some (hoB ((List.range 12).find? x.testBit)) := by
  have := lo_64 (x / 64) (by omega) (x % 64) (by omega)
  rwa [show 64 * (x / 64) + x % 64 = x by omega] at this
def lkB (o : Option Nat) (v : Int32) : Bool := match o with
  | none => false
  | some k => bt v k
theorem hoB_and {o : Option Nat} {v : Int32} (ho : ∀ k, o = some k → k < 12) : lkB o v = false ↔ hoB o &&& v = 0 := by
  cases o with
  | none =>
    refine ⟨fun _ => b_ext fun j hj => ?_, fun _ => rfl⟩
    show bt ((0 : Int32) &&& v) j = _
    rw [b_and, b_0]; rfl
  | some k =>
    have hk := ho k rfl
    show bt v k = false ↔ nI (2 ^ k) &&& v = 0
    have hb : ∀ j, j < 32 → bt (nI (2 ^ k) &&& v) j = (decide (k = j) && bt v j) := fun j hj => by rw [b_and, bt_nI hj, Nat.testBit_two_pow]
    constructor
    · intro h
      refine b_ext fun j hj => ?_
      rw [hb j hj, b_0]
      by_cases q : k = j
      · subst q; rw [h]; simp
      · simp [q]
    · intro h
      have := hb k (by omega)
      rw [h, b_0] at this
      simpa using this.symm
section SEA
variable {X : XS} {C : CS} {M : MS} {T : TS} {S : SG} {K : Nat} {mu : List Nat}
theorem decP_ext {how n : Nat} {H L : Nat → Bool} : ∀ d, (∀ k, n ≤ k → k < n + d → H k = false) → decP how (n + d) H L = decP how n H L := by
  intro d
  induction d with
  | zero => intro _; rfl
  | succ d ih =>
    intro h
    rw [← Nat.add_assoc, decP_no (h (n + d) (by omega) (by omega)), ih (fun k h1 h2 => h k h1 (by omega))]
theorem letP_ext {how n : Nat} {H L : Nat → Bool} (hn : n ≤ 12) (h : ∀ k, n ≤ k → k < 12 → H k = false) : letP how 12 H L = letP how n H L := by
  unfold letP
  rw [show 12 = n + (12 - n) by omega, decP_ext (12 - n) (fun k h1 h2 => h k h1 (by omega))]
theorem letP_congr {how n : Nat} {H H' L L' : Nat → Bool} (h : ∀ k, k < n → H k = H' k) (h2 : ∀ k, k < n → L k = L' k) : letP how n H L = letP how n H' L' := by
  have e : decP how n H L = decP how n H' L' := by
    unfold decP
    split
    · exact find_congr fun x hx => h x (List.mem_range.mp hx)
    · split
      · exact find_congr fun x hx => h x (List.mem_range.mp (List.mem_reverse.mp hx))
      · rw [find_congr (P := fun j => H j && (L j == (how == 3))) (Q := fun j => H' j && (L' j == (how == 3))) (fun x hx => by rw [h x (List.mem_range.mp hx), h2 x (List.mem_range.mp hx)]), find_congr (P := H) (Q := H') (fun x hx => h x (List.mem_range.mp hx))]
  unfold letP
  rw [e]
  cases hq : decP how n H' L' with
  | none => rfl
  | some k => exact h2 k (decP_lt hq).1
theorem bt_lt12 {v : Int32} (h : ∀ j, 12 ≤ j → j < 32 → bt v j = false) : ∃ x, x < 4096 ∧ v = nI x := by
  obtain ⟨x, hx, rfl⟩ := wb_of32 v
  refine ⟨x, ?_, rfl⟩
  refine Nat.lt_pow_two_of_testBit (n := 12) x fun i hi => ?_
  by_cases h32 : i < 32
  · rw [← bt_nI h32]; exact h i hi h32
  · exact Nat.testBit_lt_two_pow (Nat.lt_of_lt_of_le hx (Nat.pow_le_pow_right (by decide) (by omega)))
/-- what Search.isLet answers -/
theorem k_isLet {how : Nat} {v lt : Int32} (hh : how < 4) (h24 : C.1 24 = nI how) (hv : ∀ j, 12 ≤ j → j < 32 → bt v j = false) : f_X4_isLet (hp X C M T) (some 32) v lt = some (b01 (letP how 12 (bt v) (bt lt))) := by
  have g3 : gI (hp X C M T) (some 32) 4 3 = some (nI how) := by rw [gi_32_3, h24]
  obtain ⟨x, hx, rfl⟩ := bt_lt12 hv
  have hbx : ∀ k, k < 12 → bt (nI x) k = x.testBit k := fun k hk => bt_nI (by omega)
  rcases (show how = 0 ∨ how = 1 ∨ how = 2 ∨ how = 3 by omega) with rfl | rfl | rfl | rfl
  · rw [nI_0] at g3
    refine il_0 io_32 g3 (lo_12 x hx) _ ?_
    have e : letP 0 12 (bt (nI x)) (bt lt) = lkB ((List.range 12).find? x.testBit) lt := by
      unfold letP decP
      rw [if_pos rfl, find_congr (P := bt (nI x)) (Q := x.testBit) (fun k hk => hbx k (List.mem_range.mp hk))]
      cases (List.range 12).find? x.testBit <;> rfl
    rw [e]
    exact hoB_and fun k hk => (find_lt hk).1
  · rw [nI_1'] at g3
    refine il_1 io_32 g3 (hi_12 x hx) _ ?_
    have e : letP 1 12 (bt (nI x)) (bt lt) = lkB ((List.range 12).reverse.find? x.testBit) lt := by
      unfold letP decP
      rw [if_neg (by decide), if_pos rfl, find_congr (P := bt (nI x)) (Q := x.testBit) (fun k hk => hbx k (List.mem_range.mp (List.mem_reverse.mp hk)))]
      cases (List.range 12).reverse.find? x.testBit <;> rfl
    rw [e]
    exact hoB_and fun k hk => List.mem_range.mp (List.mem_reverse.mp (List.mem_of_find?_eq_some hk))
  · rw [nI_2] at g3
    refine il_2 io_32 g3 _ ?_
    have hz : nI x = 0 ↔ ∀ k, k < 12 → bt (nI x) k = false := by
      rw [bt_z]
      exact ⟨fun h k hk => h k (by omega), fun h j hj => by
        by_cases q : j < 12
        · exact h j q
        · exact hv j (by omega) hj⟩
    have hz2 : nI x &&& (lt ^^^ (-1)) = 0 ↔ ∀ k, k < 12 → bt (nI x) k = true → bt lt k = true := by
      rw [bt_z]
      constructor
      · intro h k hk h1
        have := h k (by omega)
        rw [b_and, bt_not _ (by omega), h1] at this
        simpa using this
      · intro h j hj
        rw [b_and, bt_not _ hj]
        by_cases q : j < 12
        · cases h1 : bt (nI x) j with
          | false => rfl
          | true => rw [h j q h1]; rfl
        · rw [hv j (by omega) hj]; rfl
    rw [hz, hz2]
    unfold letP decP
    rw [if_neg (by decide), if_neg (by decide)]
    cases q1 : (List.range 12).find? fun j => bt (nI x) j && (bt lt j == ((2 : Nat) == 3)) with
    | some k =>
      have := find_lt q1
      simp at this
      simp only [Option.some_or]
      refine ⟨fun h => ?_, fun h => ?_⟩
      · rw [this.2.2] at h; cases h
      · rw [h.2 k this.1 this.2.1] at this; simp at this
    | none =>
      have hn : ∀ k, k < 12 → bt (nI x) k = true → bt lt k = true := fun k hk h1 => by
        have := List.find?_eq_none.mp q1 k (List.mem_range.mpr hk)
        simp [h1] at this
        exact this
      simp only [Option.none_or]
      cases q2 : (List.range 12).find? (bt (nI x)) with
      | none =>
        refine ⟨fun h => (by cases h), fun h => absurd (fun k hk => ?_) h.1⟩
        have := List.find?_eq_none.mp q2 k (List.mem_range.mpr hk)
        simpa using this
      | some k =>
        have hk := find_lt q2
        refine ⟨fun _ => ⟨fun z => ?_, hn⟩, fun _ => hn k hk.1 hk.2⟩
        rw [z k hk.1] at hk
        cases hk.2
  · rw [nI_3] at g3
    refine il_3 io_32 g3 _ ?_
    have hz2 : nI x &&& lt = 0 ↔ ∀ k, k < 12 → bt (nI x) k = true → bt lt k = false := by
      rw [bt_z]
      constructor
      · intro h k hk h1
        have := h k (by omega)
        rw [b_and, h1] at this
        simpa using this
      · intro h j hj
        rw [b_and]
        by_cases q : j < 12
        · cases h1 : bt (nI x) j with
          | false => rfl
          | true => rw [h j q h1]; rfl
        · rw [hv j (by omega) hj]; rfl
    rw [hz2]
    unfold letP decP
    rw [if_neg (by decide), if_neg (by decide)]
    cases q1 : (List.range 12).find? fun j => bt (nI x) j && (bt lt j == ((3 : Nat) == 3)) with
    | some k =>
      have := find_lt q1
      simp at this
      simp only [Option.some_or]
      refine ⟨fun h => ?_, fun h => ?_⟩
      · rw [this.2.2] at h; cases h
      · rw [h k this.1 this.2.1] at this; simp at this
    | none =>
      have hn : ∀ k, k < 12 → bt (nI x) k = true → bt lt k = false := fun k hk h1 => by
        have := List.find?_eq_none.mp q1 k (List.mem_range.mpr hk)
        simp [h1] at this
        exact this
      simp only [Option.none_or]
      cases q2 : (List.range 12).find? (bt (nI x)) with
      | none => exact ⟨fun _ => hn, fun _ => rfl⟩
      | some k =>
        have hk := find_lt q2
        exact ⟨fun _ => hn, fun _ => hn k hk.1 hk.2⟩
end SEA
