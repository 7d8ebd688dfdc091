/-! the reference's mend -/
section MA
variable {A A1 A2 A3 A4 A5 A6 : LH} {q x y : Option Nat} {v1 v2 v3 v4 n a b c l w : Int32}
theorem io_end (N m : Nat) (h1 : v2 ≤ v3) : l_X11_isMended_12 N (m + 1) A q v1 v2 v3 = l_X11_isMended_86 N N A q v1 0 := by
  show b_X11_isMended_12 N _ A q v1 v2 v3 = _
  unfold b_X11_isMended_12
  (repeat (first | with_reducible rfl | refine (bnd_eq (by first | with_reducible assumption)).trans ?_ | refine (if_pos (by first | with_reducible assumption | with_reducible rfl | decide | (dsimp only; first | with_reducible assumption | with_reducible rfl | decide))).trans ?_ | refine (if_neg (by first | with_reducible assumption | decide | (dsimp only; first | with_reducible assumption | decide))).trans ?_))
theorem io_0 (N m : Nat) (h1 : ¬ v2 ≤ v3) (h2 : gI A q 11 39 = some a) (h3 : gR A q 11 48 = some x) (h4 : aI A x 0 v3 = some 0) (h5 : gR A q 11 47 = some y) (h6 : aI A y 0 v3 = some l) (h7 : pF A q 11 39 (LI (a ||| ((1 : Int32) <<< (l &&& 31)))) = some A1) (h8 : gI A1 q 11 40 = some b) (h9 : gR A1 q 11 48 = some x) (h10 : aI A1 x 0 v3 = some 0) (h11 : pF A1 q 11 40 (LI (b ||| 0)) = some A2) : l_X11_isMended_12 N (m + 1) A q v1 v2 v3 = l_X11_isMended_12 N m A2 q v1 v2 (v3 + 1) := by
  show b_X11_isMended_12 N _ A q v1 v2 v3 = _
  unfold b_X11_isMended_12
  (repeat (first | with_reducible rfl | refine (bnd_eq (by first | with_reducible assumption)).trans ?_ | refine (if_pos (by first | with_reducible assumption | with_reducible rfl | decide | (dsimp only; first | with_reducible assumption | with_reducible rfl | decide))).trans ?_ | refine (if_neg (by first | with_reducible assumption | decide | (dsimp only; first | with_reducible assumption | decide))).trans ?_ | unfold b_X11_isMended_43 | unfold b_X11_isMended_74))
theorem io_1 (N m : Nat) (h1 : ¬ v2 ≤ v3) (h2 : gI A q 11 39 = some a) (h3 : gR A q 11 48 = some x) (h4 : aI A x 0 v3 = some 1) (h7 : pF A q 11 39 (LI (a ||| 0)) = some A1) (h8 : gI A1 q 11 40 = some b) (h9 : gR A1 q 11 48 = some x) (h10 : aI A1 x 0 v3 = some 1) (h5 : gR A1 q 11 47 = some y) (h6 : aI A1 y 0 v3 = some l) (h11 : pF A1 q 11 40 (LI (b ||| ((1 : Int32) <<< (l &&& 31)))) = some A2) : l_X11_isMended_12 N (m + 1) A q v1 v2 v3 = l_X11_isMended_12 N m A2 q v1 v2 (v3 + 1) := by
  show b_X11_isMended_12 N _ A q v1 v2 v3 = _
  unfold b_X11_isMended_12
  (repeat (first | with_reducible rfl | refine (bnd_eq (by first | with_reducible assumption)).trans ?_ | refine (if_pos (by first | with_reducible assumption | with_reducible rfl | decide | (dsimp only; first | with_reducible assumption | with_reducible rfl | decide))).trans ?_ | refine (if_neg (by first | with_reducible assumption | decide | (dsimp only; first | with_reducible assumption | decide))).trans ?_ | unfold b_X11_isMended_43 | unfold b_X11_isMended_74))
theorem ie_end (N m : Nat) (h1 : gR A q 11 10 = some x) (h2 : aI A x 0 0 = some n) (h3 : n ≤ v3) : l_X11_isMended_86 N (m + 1) A q v1 v3 = some (1, A) := by
  show b_X11_isMended_86 N _ A q v1 v3 = _
  unfold b_X11_isMended_86
  (repeat (first | with_reducible rfl | refine (bnd_eq (by first | with_reducible assumption)).trans ?_ | refine (if_pos (by first | with_reducible assumption | with_reducible rfl | decide | (dsimp only; first | with_reducible assumption | with_reducible rfl | decide))).trans ?_ | refine (if_neg (by first | with_reducible assumption | decide | (dsimp only; first | with_reducible assumption | decide))).trans ?_))
theorem ie_un (N m : Nat) (h1 : gR A q 11 10 = some x) (h2 : aI A x 0 0 = some n) (h3 : ¬ n ≤ v3) (h4 : gR A q 11 12 = some y) (h5 : aI A y 0 v3 = some (-1)) : l_X11_isMended_86 N (m + 1) A q v1 v3 = l_X11_isMended_86 N m A q v1 (v3 + 1) := by
  show b_X11_isMended_86 N _ A q v1 v3 = _
  unfold b_X11_isMended_86
  (repeat (first | with_reducible rfl | refine (bnd_eq (by first | with_reducible assumption)).trans ?_ | refine (if_pos (by first | with_reducible assumption | with_reducible rfl | decide | (dsimp only; first | with_reducible assumption | with_reducible rfl | decide))).trans ?_ | refine (if_neg (by first | with_reducible assumption | decide | (dsimp only; first | with_reducible assumption | decide))).trans ?_))
theorem ie_mk (N m : Nat) (h1 : gR A q 11 10 = some x) (h2 : aI A x 0 0 = some n) (h3 : ¬ n ≤ v3) (h4 : gR A q 11 12 = some y) (h5 : aI A y 0 v3 = some a) (h6 : ¬ a = -1) (bb : Bool) (h7 : f_X11_isAskLet N A q v1 v3 = some (b01 bb, A1)) (h8 : gR A1 q 11 12 = some y) (h9 : aI A1 y 0 v3 = some a) : l_X11_isMended_86 N (m + 1) A q v1 v3 = if bb = (a == 1) then l_X11_isMended_86 N m A1 q v1 (v3 + 1) else some (0, A1) := by
  have key : ∀ c : Bool, b_X11_isMended_127 N (l_X11_isMended_86 N m) A1 q v1 v3 (b01 c) (b01 bb) = if bb = c then l_X11_isMended_86 N m A1 q v1 (v3 + 1) else some (0, A1) := by
    intro c
    unfold b_X11_isMended_127
    cases bb <;> cases c <;> first | exact if_pos rfl | exact if_neg (by decide)
  show b_X11_isMended_86 N _ A q v1 v3 = _
  unfold b_X11_isMended_86
  by_cases hb : a = 1
  · have e : (a == 1) = true := by simp [hb]
    rw [e]
    (repeat (first | with_reducible rfl | refine (bnd_eq (by first | with_reducible assumption)).trans ?_ | refine (if_pos (by first | with_reducible assumption | with_reducible rfl | decide | (dsimp only; first | with_reducible assumption | with_reducible rfl | decide))).trans ?_ | refine (if_neg (by first | with_reducible assumption | decide | (dsimp only; first | with_reducible assumption | decide))).trans ?_))
    exact key true
  · have e : (a == 1) = false := by simp [hb]
    rw [e]
    (repeat (first | with_reducible rfl | refine (bnd_eq (by first | with_reducible assumption)).trans ?_ | refine (if_pos (by first | with_reducible assumption | with_reducible rfl | decide | (dsimp only; first | with_reducible assumption | with_reducible rfl | decide))).trans ?_ | refine (if_neg (by first | with_reducible assumption | decide | (dsimp only; first | with_reducible assumption | decide))).trans ?_))
    exact key false
theorem im_ab (N : Nat) (h0 : isO A q 11 = true) (h1 : pF A q 11 39 (LI 0) = some A1) (h2 : pF A1 q 11 40 (LI 0) = some A2) (bb : Bool) (h3 : l_X11_isMended_12 N N A2 q v1 v2 0 = some (b01 bb, A3)) : f_X11_isMended N A q v1 v2 = some (b01 bb, A3) := by
  unfold f_X11_isMended
  rw [if_pos h0, show b_X11_isMended N A q v1 v2 = some (b01 bb, A3) by unfold b_X11_isMended; exact (bnd_eq h1).trans ((bnd_eq h2).trans h3)]
  exact zc_b bb A3
theorem gr_end (N m : Nat) (h1 : v2 ≤ v4) : l_X11_goesOn_68 N (m + 1) A q v2 v4 = some (1, A) := by
  show b_X11_goesOn_68 N _ A q v2 v4 = _
  unfold b_X11_goesOn_68
  (repeat (first | with_reducible rfl | refine (bnd_eq (by first | with_reducible assumption)).trans ?_ | refine (if_pos (by first | with_reducible assumption | with_reducible rfl | decide | (dsimp only; first | with_reducible assumption | with_reducible rfl | decide))).trans ?_ | refine (if_neg (by first | with_reducible assumption | decide | (dsimp only; first | with_reducible assumption | decide))).trans ?_))
theorem gr_st (N m : Nat) (h1 : ¬ v2 ≤ v4) (h2 : gR A q 11 47 = some x) (h3 : aI A x 0 (v4 - 1) = some l) (h4 : sI A x 0 v4 (l + 1) = some A1) (h5 : gR A1 q 11 48 = some y) (h6 : sI A1 y 0 v4 0 = some A2) : l_X11_goesOn_68 N (m + 1) A q v2 v4 = l_X11_goesOn_68 N m A2 q v2 (v4 + 1) := by
  show b_X11_goesOn_68 N _ A q v2 v4 = _
  unfold b_X11_goesOn_68
  (repeat (first | with_reducible rfl | refine (bnd_eq (by first | with_reducible assumption)).trans ?_ | refine (if_pos (by first | with_reducible assumption | with_reducible rfl | decide | (dsimp only; first | with_reducible assumption | with_reducible rfl | decide))).trans ?_ | refine (if_neg (by first | with_reducible assumption | decide | (dsimp only; first | with_reducible assumption | decide))).trans ?_))
theorem go_end (N m : Nat) (h1 : v3 < 0) : l_X11_goesOn_4 N (m + 1) A q v1 v2 v3 = some (0, A) := by
  show b_X11_goesOn_4 N _ A q v1 v2 v3 = _
  unfold b_X11_goesOn_4
  (repeat (first | with_reducible rfl | refine (bnd_eq (by first | with_reducible assumption)).trans ?_ | refine (if_pos (by first | with_reducible assumption | with_reducible rfl | decide | (dsimp only; first | with_reducible assumption | with_reducible rfl | decide))).trans ?_ | refine (if_neg (by first | with_reducible assumption | decide | (dsimp only; first | with_reducible assumption | decide))).trans ?_))
theorem go_0 (N m : Nat) (h1 : ¬ v3 < 0) (h2 : gR A q 11 48 = some x) (h3 : aI A x 0 v3 = some 0) (h4 : sI A x 0 v3 1 = some A1) (h5 : l_X11_goesOn_68 N N A1 q v2 (v3 + 1) = some (a, A2)) : l_X11_goesOn_4 N (m + 1) A q v1 v2 v3 = some (a, A2) := by
  show b_X11_goesOn_4 N _ A q v1 v2 v3 = _
  unfold b_X11_goesOn_4
  (repeat (first | with_reducible rfl | refine (bnd_eq (by first | with_reducible assumption)).trans ?_ | refine (if_pos (by first | with_reducible assumption | with_reducible rfl | decide | (dsimp only; first | with_reducible assumption | with_reducible rfl | decide))).trans ?_ | refine (if_neg (by first | with_reducible assumption | decide | (dsimp only; first | with_reducible assumption | decide))).trans ?_))
  exact h5
theorem go_1 (N m : Nat) {z : Option Nat} (h1 : ¬ v3 < 0) (h2 : gR A q 11 48 = some x) (h3 : aI A x 0 v3 = some w) (h3' : ¬ w = 0) (h4 : gR A q 11 47 = some y) (h5 : aI A y 0 v3 = some l) (h6 : gR A q 11 14 = some z) (h7 : aI A z 0 v1 = some n) (h8 : ¬ n - v2 + v3 ≤ l) (h9 : sI A y 0 v3 (l + 1) = some A1) (h10 : gR A1 q 11 48 = some x) (h11 : sI A1 x 0 v3 0 = some A2) (h12 : l_X11_goesOn_68 N N A2 q v2 (v3 + 1) = some (a, A3)) : l_X11_goesOn_4 N (m + 1) A q v1 v2 v3 = some (a, A3) := by
  show b_X11_goesOn_4 N _ A q v1 v2 v3 = _
  unfold b_X11_goesOn_4
  (repeat (first | with_reducible rfl | refine (bnd_eq (by first | with_reducible assumption)).trans ?_ | refine (if_pos (by first | with_reducible assumption | with_reducible rfl | decide | (dsimp only; first | with_reducible assumption | with_reducible rfl | decide))).trans ?_ | refine (if_neg (by first | with_reducible assumption | decide | (dsimp only; first | with_reducible assumption | decide))).trans ?_))
  exact h12
theorem go_2 (N m : Nat) {z : Option Nat} (h1 : ¬ v3 < 0) (h2 : gR A q 11 48 = some x) (h3 : aI A x 0 v3 = some w) (h3' : ¬ w = 0) (h4 : gR A q 11 47 = some y) (h5 : aI A y 0 v3 = some l) (h6 : gR A q 11 14 = some z) (h7 : aI A z 0 v1 = some n) (h8 : n - v2 + v3 ≤ l) : l_X11_goesOn_4 N (m + 1) A q v1 v2 v3 = l_X11_goesOn_4 N m A q v1 v2 (v3 + (-1)) := by
  show b_X11_goesOn_4 N _ A q v1 v2 v3 = _
  unfold b_X11_goesOn_4
  (repeat (first | with_reducible rfl | refine (bnd_eq (by first | with_reducible assumption)).trans ?_ | refine (if_pos (by first | with_reducible assumption | with_reducible rfl | decide | (dsimp only; first | with_reducible assumption | with_reducible rfl | decide))).trans ?_ | refine (if_neg (by first | with_reducible assumption | decide | (dsimp only; first | with_reducible assumption | decide))).trans ?_))
theorem go_ab (N : Nat) (h0 : isO A q 11 = true) (bb : Bool) (h1 : l_X11_goesOn_4 N N A q v1 v2 (v2 - 1) = some (b01 bb, A1)) : f_X11_goesOn N A q v1 v2 = some (b01 bb, A1) := by
  unfold f_X11_goesOn
  rw [if_pos h0, show b_X11_goesOn N A q v1 v2 = some (b01 bb, A1) from h1]
  exact zc_b bb A1
theorem mc_end (N m : Nat) (h1 : v2 ≤ v4) : l_X11_mend_121 N (m + 1) A q v2 v4 = some (v2, A) := by
  show b_X11_mend_121 N _ A q v2 v4 = _
  unfold b_X11_mend_121
  (repeat (first | with_reducible rfl | refine (bnd_eq (by first | with_reducible assumption)).trans ?_ | refine (if_pos (by first | with_reducible assumption | with_reducible rfl | decide | (dsimp only; first | with_reducible assumption | with_reducible rfl | decide))).trans ?_ | refine (if_neg (by first | with_reducible assumption | decide | (dsimp only; first | with_reducible assumption | decide))).trans ?_))
theorem mc_st (N m : Nat) {x' y' : Option Nat} (h1 : ¬ v2 ≤ v4) (h2 : gR A q 11 45 = some x) (h3 : gR A q 11 47 = some x') (h4 : aI A x' 0 v4 = some a) (h5 : sI A x 0 v4 a = some A1) (h6 : gR A1 q 11 46 = some y) (h7 : gR A1 q 11 48 = some y') (h8 : aI A1 y' 0 v4 = some b) (h9 : sI A1 y 0 v4 b = some A2) : l_X11_mend_121 N (m + 1) A q v2 v4 = l_X11_mend_121 N m A2 q v2 (v4 + 1) := by
  show b_X11_mend_121 N _ A q v2 v4 = _
  unfold b_X11_mend_121
  (repeat (first | with_reducible rfl | refine (bnd_eq (by first | with_reducible assumption)).trans ?_ | refine (if_pos (by first | with_reducible assumption | with_reducible rfl | decide | (dsimp only; first | with_reducible assumption | with_reducible rfl | decide))).trans ?_ | refine (if_neg (by first | with_reducible assumption | decide | (dsimp only; first | with_reducible assumption | decide))).trans ?_))
theorem mp_1 (N : Nat) {k17 : LH → Option Nat → Int32 → Int32 → Option (Int32 × LH)} (h0 : ¬ v3 = 0) (h1 : pZ A q 11 41 1 = some A1) (h2 : pF A1 q 11 42 (LI v1) = some A2) (h3 : gR A2 q 11 37 = some x) (h4 : aI A2 x 0 v1 = some a) (h5 : pF A2 q 11 43 (LI a) = some A3) (h6 : pF A3 q 11 44 (LI v2) = some A4) (h7 : l_X11_mend_121 N N A4 q v2 0 = some (b, A5)) : b_X11_mend_89 N k17 A q v1 v2 v3 = some (b, A5) := by
  unfold b_X11_mend_89
  (repeat (first | with_reducible rfl | refine (bnd_eq (by first | with_reducible assumption)).trans ?_ | refine (if_pos (by first | with_reducible assumption | with_reducible rfl | decide | (dsimp only; first | with_reducible assumption | with_reducible rfl | decide))).trans ?_ | refine (if_neg (by first | with_reducible assumption | decide | (dsimp only; first | with_reducible assumption | decide))).trans ?_))
  exact h7
theorem mp_0 (N : Nat) {k17 : LH → Option Nat → Int32 → Int32 → Option (Int32 × LH)} (h0 : v3 = 0) : b_X11_mend_89 N k17 A q v1 v2 v3 = k17 A q v1 (v2 + 1) := by
  unfold b_X11_mend_89
  (repeat (first | with_reducible rfl | refine (bnd_eq (by first | with_reducible assumption)).trans ?_ | refine (if_pos (by first | with_reducible assumption | with_reducible rfl | decide | (dsimp only; first | with_reducible assumption | with_reducible rfl | decide))).trans ?_ | refine (if_neg (by first | with_reducible assumption | decide | (dsimp only; first | with_reducible assumption | decide))).trans ?_))
theorem ms_1 (N m : Nat) {k17 : LH → Option Nat → Int32 → Int32 → Option (Int32 × LH)} (h0 : ¬ v3 = 0) : l_X11_mend_66 N k17 (m + 1) A q v1 v2 v3 = b_X11_mend_89 N k17 A q v1 v2 v3 := by
  show b_X11_mend_66 N _ _ A q v1 v2 v3 = _
  unfold b_X11_mend_66
  (repeat (first | with_reducible rfl | refine (bnd_eq (by first | with_reducible assumption)).trans ?_ | refine (if_pos (by first | with_reducible assumption | with_reducible rfl | decide | (dsimp only; first | with_reducible assumption | with_reducible rfl | decide))).trans ?_ | refine (if_neg (by first | with_reducible assumption | decide | (dsimp only; first | with_reducible assumption | decide))).trans ?_))
theorem ms_0e (N m : Nat) {k17 : LH → Option Nat → Int32 → Int32 → Option (Int32 × LH)} (h0 : v3 = 0) (h1 : f_X11_goesOn N A q v1 v2 = some (0, A1)) : l_X11_mend_66 N k17 (m + 1) A q v1 v2 v3 = b_X11_mend_89 N k17 A1 q v1 v2 v3 := by
  show b_X11_mend_66 N _ _ A q v1 v2 v3 = _
  unfold b_X11_mend_66
  (repeat (first | with_reducible rfl | refine (bnd_eq (by first | with_reducible assumption)).trans ?_ | refine (if_pos (by first | with_reducible assumption | with_reducible rfl | decide | (dsimp only; first | with_reducible assumption | with_reducible rfl | decide))).trans ?_ | refine (if_neg (by first | with_reducible assumption | decide | (dsimp only; first | with_reducible assumption | decide))).trans ?_))
theorem ms_0g (N m : Nat) {k17 : LH → Option Nat → Int32 → Int32 → Option (Int32 × LH)} (h0 : v3 = 0) (h1 : f_X11_goesOn N A q v1 v2 = some (1, A1)) (h2 : f_X11_isMended N A1 q v1 v2 = some (a, A2)) : l_X11_mend_66 N k17 (m + 1) A q v1 v2 v3 = l_X11_mend_66 N k17 m A2 q v1 v2 a := by
  show b_X11_mend_66 N _ _ A q v1 v2 v3 = _
  unfold b_X11_mend_66
  (repeat (first | with_reducible rfl | refine (bnd_eq (by first | with_reducible assumption)).trans ?_ | refine (if_pos (by first | with_reducible assumption | with_reducible rfl | decide | (dsimp only; first | with_reducible assumption | with_reducible rfl | decide))).trans ?_ | refine (if_neg (by first | with_reducible assumption | decide | (dsimp only; first | with_reducible assumption | decide))).trans ?_))
theorem mi_st (N m : Nat) {k17 : LH → Option Nat → Int32 → Int32 → Option (Int32 × LH)} (h1 : ¬ v2 ≤ v3) (h2 : gR A q 11 47 = some x) (h3 : sI A x 0 v3 v3 = some A1) (h4 : gR A1 q 11 48 = some y) (h5 : sI A1 y 0 v3 0 = some A2) : l_X11_mend_34 N k17 (m + 1) A q v1 v2 v3 = l_X11_mend_34 N k17 m A2 q v1 v2 (v3 + 1) := by
  show b_X11_mend_34 N _ _ A q v1 v2 v3 = _
  unfold b_X11_mend_34
  (repeat (first | with_reducible rfl | refine (bnd_eq (by first | with_reducible assumption)).trans ?_ | refine (if_pos (by first | with_reducible assumption | with_reducible rfl | decide | (dsimp only; first | with_reducible assumption | with_reducible rfl | decide))).trans ?_ | refine (if_neg (by first | with_reducible assumption | decide | (dsimp only; first | with_reducible assumption | decide))).trans ?_))
theorem mi_go (N m : Nat) {k17 : LH → Option Nat → Int32 → Int32 → Option (Int32 × LH)} (h1 : v2 ≤ v3) (h2 : f_X11_isMended N A q v1 v2 = some (a, A1)) : l_X11_mend_34 N k17 (m + 1) A q v1 v2 v3 = l_X11_mend_66 N k17 N A1 q v1 v2 a := by
  show b_X11_mend_34 N _ _ A q v1 v2 v3 = _
  unfold b_X11_mend_34
  (repeat (first | with_reducible rfl | refine (bnd_eq (by first | with_reducible assumption)).trans ?_ | refine (if_pos (by first | with_reducible assumption | with_reducible rfl | decide | (dsimp only; first | with_reducible assumption | with_reducible rfl | decide))).trans ?_ | refine (if_neg (by first | with_reducible assumption | decide | (dsimp only; first | with_reducible assumption | decide))).trans ?_))
theorem mo3 (N m : Nat) (h1 : 3 < v2) : l_X11_mend_17 N (m + 1) A q v1 v2 = some (-1, A) := by
  show b_X11_mend_17 N _ A q v1 v2 = _
  unfold b_X11_mend_17
  (repeat (first | with_reducible rfl | refine (bnd_eq (by first | with_reducible assumption)).trans ?_ | refine (if_pos (by first | with_reducible assumption | with_reducible rfl | decide | (dsimp only; first | with_reducible assumption | with_reducible rfl | decide))).trans ?_ | refine (if_neg (by first | with_reducible assumption | decide | (dsimp only; first | with_reducible assumption | decide))).trans ?_))
theorem moL (N m : Nat) (h1 : ¬ 3 < v2) (h2 : gR A q 11 14 = some x) (h3 : aI A x 0 v1 = some n) (h4 : n < v2) : l_X11_mend_17 N (m + 1) A q v1 v2 = some (-1, A) := by
  show b_X11_mend_17 N _ A q v1 v2 = _
  unfold b_X11_mend_17
  (repeat (first | with_reducible rfl | refine (bnd_eq (by first | with_reducible assumption)).trans ?_ | refine (if_pos (by first | with_reducible assumption | with_reducible rfl | decide | (dsimp only; first | with_reducible assumption | with_reducible rfl | decide))).trans ?_ | refine (if_neg (by first | with_reducible assumption | decide | (dsimp only; first | with_reducible assumption | decide))).trans ?_))
theorem moG (N m : Nat) (h1 : ¬ 3 < v2) (h2 : gR A q 11 14 = some x) (h3 : aI A x 0 v1 = some n) (h4 : ¬ n < v2) : l_X11_mend_17 N (m + 1) A q v1 v2 = l_X11_mend_34 N (l_X11_mend_17 N m) N A q v1 v2 0 := by
  show b_X11_mend_17 N _ A q v1 v2 = _
  unfold b_X11_mend_17
  (repeat (first | with_reducible rfl | refine (bnd_eq (by first | with_reducible assumption)).trans ?_ | refine (if_pos (by first | with_reducible assumption | with_reducible rfl | decide | (dsimp only; first | with_reducible assumption | with_reducible rfl | decide))).trans ?_ | refine (if_neg (by first | with_reducible assumption | decide | (dsimp only; first | with_reducible assumption | decide))).trans ?_))
theorem mM_no {N : Nat} (h0 : isO A q 11 = true) (h1 : pF A q 11 0 (LI 0) = some A1) (h2 : f_X11_isSlot A1 q v1 = some 0) : f_X11_mend N A q v1 = some (-1, A1) := by
  unfold f_X11_mend b_X11_mend
  (repeat (first | with_reducible rfl | refine (bnd_eq (by first | with_reducible assumption)).trans ?_ | refine (if_pos (by first | with_reducible assumption | with_reducible rfl | decide | (dsimp only; first | with_reducible assumption | with_reducible rfl | decide))).trans ?_ | refine (if_neg (by first | with_reducible assumption | decide | (dsimp only; first | with_reducible assumption | decide))).trans ?_))
theorem mM_go' {N : Nat} (h0 : isO A q 11 = true) (h1 : pF A q 11 0 (LI 0) = some A1) (h2 : f_X11_isSlot A1 q v1 = some 1) (h3 : l_X11_mend_17 N N A1 q v1 0 = some (a, A2)) : f_X11_mend N A q v1 = some (a, A2) := by
  unfold f_X11_mend b_X11_mend
  (repeat (first | with_reducible rfl | refine (bnd_eq (by first | with_reducible assumption)).trans ?_ | refine (if_pos (by first | with_reducible assumption | with_reducible rfl | decide | (dsimp only; first | with_reducible assumption | with_reducible rfl | decide))).trans ?_ | refine (if_neg (by first | with_reducible assumption | decide | (dsimp only; first | with_reducible assumption | decide))).trans ?_))
  exact h3
end MA
section MMD
variable {X : XS} {C : CS} {M : MS} {T : TS} {S : SG} {K : Nat} {mu : List Nat}
/-- the ASKS that are MARKED are decided so -/
def okBk (t : TLD) (r : RSV) (c : CH) : Bool := (t_bk t).all fun x => x.2.2.2.2 == -1 || (letP r.1 r.2.length (hM (evO t x.1 x.2.1 x.2.2.1) x.2.2.2.1 r.2 (nI (bitsOf c 0))) (ltM r.2 (nI (bitsOf c 1))) == (x.2.2.2.2 == 1))
/-- code, out, turned, pile, what is tried -/
def EqN (M M' : MS) : Prop := (∀ k, k ≠ 0 → k ≠ 39 → k ≠ 40 → M'.1 k = M.1 k) ∧ ∀ a, a ≠ 38 → a ≠ 47 → a ≠ 48 → M'.2.2 a = M.2.2 a
theorem EqN.rf : EqN M M := ⟨fun _ _ _ _ => rfl, fun _ _ _ _ => rfl⟩
theorem EqN.tr {M' M'' : MS} (h : EqN M M') (h2 : EqN M' M'') : EqN M M'' := ⟨fun k h0 h1 h3 => (h2.1 k h0 h1 h3).trans (h.1 k h0 h1 h3), fun a h4 h5 h6 => (h2.2 a h4 h5 h6).trans (h.2 a h4 h5 h6)⟩
theorem EqN.s0 {M' : MS} {k : Nat} {v : Int32} (h : EqN M M') (hk : k = 0 ∨ k = 39 ∨ k = 40) : EqN M (m0 M' k v) := h.tr ⟨fun j h0 h1 h3 => by rw [m0_1, up_n _ _ (by omega)], fun a _ _ _ => rfl⟩
theorem EqN.sa {M' : MS} {k : Nat} {f : Nat → Int32} (h : EqN M M') (hk : k = 38 ∨ k = 47 ∨ k = 48) : EqN M (ma M' k f) := h.tr ⟨fun _ _ _ _ => rfl, fun a _ _ _ => by rw [ma_22, up_n _ _ (by omega)]⟩
theorem EqN.agr {M' : MS} (h : EqN M M') (j : Nat) : Agr j M.2.2 M'.2.2 := fun a i hi => by
  by_cases e : a = 38 ∨ a = 47 ∨ a = 48
  · rcases e with rfl | rfl | rfl <;> exact absurd hi (Nat.not_lt_zero _)
  · rw [h.2 a (by omega) (by omega) (by omega)]
theorem EqN.rm {M' : MS} (h : EqN M M') (hw : WS S) (hm : RM S K M) : RM S (K + 1) M' := by
  have hA := h.agr
  obtain ⟨h1, h2⟩ := h
  obtain ⟨m1, m2, m3, m4, m5, m6, m7⟩ := hm
  obtain ⟨w1, w2, w3, w5, w6⟩ := hw
  have k := h1
  have b : ∀ a, a ≠ 38 → a ≠ 47 → a ≠ 48 → M'.2.2 a = M.2.2 a := h2
  refine ⟨?_, m2.agr w3.1 (hA 0), m3.agr w3.2 (hA 0), ?_, ?_, ?_, MIm.agr (S := S) m7 w5 rfl (b 49 (by decide) (by decide) (by decide)) fun j _ => hA j⟩
  · rw [k 2 (by decide) (by decide) (by decide), b 1 (by decide) (by decide) (by decide)]; exact m1
  · rw [k 24 (by decide) (by decide) (by decide), k 25 (by decide) (by decide) (by decide)]; exact m4
  · unfold MMd at m5 ⊢
    rw [k 41 (by decide) (by decide) (by decide), k 42 (by decide) (by decide) (by decide), k 43 (by decide) (by decide) (by decide), k 44 (by decide) (by decide) (by decide), b 37 (by decide) (by decide) (by decide), b 45 (by decide) (by decide) (by decide), b 46 (by decide) (by decide) (by decide)]
    exact m5
  · have := m6.up
    unfold MTe at this ⊢
    rw [k 36 (by decide) (by decide) (by decide), k 43 (by decide) (by decide) (by decide), b 37 (by decide) (by decide) (by decide)]
    exact this
theorem MRs.n {M' : MS} {s : Nat} {r : RSV} (hs : s < 4) (wr : WRs r) (h : MRs M s r) (he : EqN M M') : MRs M' s r := by
  have b : ∀ a, a ≠ 38 → a ≠ 47 → a ≠ 48 → M'.2.2 a = M.2.2 a := he.2
  obtain ⟨h1, h2, h3⟩ := h
  refine ⟨by rw [b 13 (by decide) (by decide) (by decide)]; exact h1, by rw [b 14 (by decide) (by decide) (by decide)]; exact h2, fun k l hl => ?_⟩
  have := h3 k l hl
  unfold MLn at this ⊢
  rw [b 15 (by decide) (by decide) (by decide), b 16 (by decide) (by decide) (by decide), b 17 (by decide) (by decide) (by decide)]
  exact this
theorem m_askG (N : Nat) (hN : 1820 ≤ N) {t : TLD} {r : RSV} {s : Nat} (hs : s < 4) (hT : MTab t 0 M.2.2) (hW : WTld t) (wr : WRs r) (hr : MRs M s r) {i : Nat} {x : AK} (hx : (t_bk t)[i]? = some x) : ∃ f, f_X11_isAskLet N (hp X C M T) (some 35) (nI s) (nI i) = some (b01 (letP r.1 r.2.length (hM (evO t x.1 x.2.1 x.2.2.1) x.2.2.2.1 r.2 (M.1 39)) (ltM r.2 (M.1 40))), hp X C (mT M f) T) := by
  have w := hW.2.2.2.2.2 i x hx
  have b := hT.2.2.2.2.2 i x hx
  have hi := at_lt hx
  have h2 := hW.2.2.1
  simp only [Nat.mul_zero, Nat.zero_add] at b
  obtain ⟨f, hf⟩ := m_isLet (X := X) (C := C) (T := T) (e := evO t x.1 x.2.1 x.2.2.1) N hN hs w.2.2.2.1 (MEv.of hW hT w.1 w.2.2.1) (WEv.of hW w.1 w.2.1 w.2.2.1) wr hr
  have e0 : (4 : Int32) * nI i = nI (i * 4) := by rw [← nI_4, pk_mul, Nat.mul_comm]
  refine ⟨f, al_ab N io_35 gr_35_11 ?_ ?_ ?_ ?_ _ hf⟩
  · rw [e0, ai_45 (by omega), b.1]; rfl
  · rw [e0, nI_1, ai_45 (by omega), b.2.1]; rfl
  · rw [e0, ← nI_2, nI_add, ai_45 (by omega), b.2.2.1]; rfl
  · rw [e0, ← nI_3, nI_add, ai_45 (by omega), b.2.2.2.1]
/-- the lines and ways that are tried -/
def RCm (M : MS) (c : CH) : Prop := ∀ (j : Nat) (x : Nat × Nat), c[j]? = some x → M.2.2 47 j = nI x.1 ∧ M.2.2 48 j = nI x.2
theorem m_isM (N : Nat) (hN : 1820 ≤ N) {t : TLD} {r : RSV} {s : Nat} {c : CH} (hs : s < 4) (hT : MTab t 0 M.2.2) (hW : WTld t) (wr : WRs r) (hr : MRs M s r) (hc : RCm M c) (hl : c.length ≤ 3) (hpw : (c.map Prod.fst).Pairwise (· < ·)) (hc2 : ∀ x ∈ c, x.1 < 12 ∧ x.2 < 2) : ∃ M', f_X11_isMended N (hp X C M T) (some 35) (nI s) (nI c.length) = some (b01 (okBk t r c), hp X C M' T) ∧ EqN M M' ∧ RCm M' c := by
  have hbk := hW.2.2.1
  have lp : ∀ (d m j : Nat), c.length = j + d → d < m → ∀ (M1 : MS), EqN M M1 → M1.2.2 47 = M.2.2 47 → M1.2.2 48 = M.2.2 48 → M1.1 39 = nI (bitsOf (c.take j) 0) → M1.1 40 = nI (bitsOf (c.take j) 1) → ∃ M2, l_X11_isMended_12 N m (hp X C M1 T) (some 35) (nI s) (nI c.length) (nI j) = l_X11_isMended_86 N N (hp X C M2 T) (some 35) (nI s) 0 ∧ EqN M M2 ∧ M2.2.2 47 = M.2.2 47 ∧ M2.2.2 48 = M.2.2 48 ∧ M2.1 39 = nI (bitsOf c 0) ∧ M2.1 40 = nI (bitsOf c 1) := by
    intro d
    induction d with
    | zero =>
      intro m j h1 h2 M1 e1 e2 e3 e4 e5
      obtain ⟨m, rfl⟩ : ∃ k, m = k + 1 := ⟨m - 1, by omega⟩
      rw [List.take_of_length_le (by omega)] at e4 e5
      exact ⟨M1, io_end N m (nI_le (by omega) (by omega)), e1, e2, e3, e4, e5⟩
    | succ d ih =>
      intro m j h1 h2 M1 e1 e2 e3 e4 e5
      obtain ⟨m, rfl⟩ : ∃ k, m = k + 1 := ⟨m - 1, by omega⟩
      obtain ⟨x, hx⟩ := at_ex c (show j < c.length by omega)
      obtain ⟨x1, x2⟩ := hc j x hx
      obtain ⟨y1, y2⟩ := hc2 x (List.mem_of_getElem? hx)
      have htk : c.take (j + 1) = c.take j ++ [x] := by
        rw [List.take_succ, hx]; rfl
      have hpt : ((c.take j).map Prod.fst).Pairwise (· < ·) := by
        have := List.Pairwise.sublist (List.Sublist.map Prod.fst (List.take_sublist j c)) hpw
        exact this
      have hlt : ∀ z ∈ c.take j, z.1 < x.1 := fun z hz => by
        obtain ⟨i, hi⟩ := List.getElem?_of_mem hz
        have hij : i < j := by have := at_lt hi; rw [List.length_take] at this; omega
        rw [List.getElem?_take_of_lt hij] at hi
        exact pw_at hpw hi hx hij
      have hjl : ¬ nI c.length ≤ nI j := nI_ge (by omega) (by omega)
      have a47 : ∀ M' : MS, M'.2.2 47 = M.2.2 47 → aI (hp X C M' T) (some 59) 0 (nI j) = some (nI x.1) := fun M' h => by rw [ai_59 (by omega), h, x1]
      have a48 : ∀ M' : MS, M'.2.2 48 = M.2.2 48 → aI (hp X C M' T) (some 60) 0 (nI j) = some (nI x.2) := fun M' h => by rw [ai_60 (by omega), h, x2]
      have oz : ∀ v : Int32, v ||| 0 = v := fun v => b_ext fun k _ => by rw [b_or, b_0, Bool.or_false]
      have hx' : x = (x.1, x.2) := rfl
      rcases (show x.2 = 0 ∨ x.2 = 1 by omega) with w | w
      · have b0 := bo_or (w := 0) hpt hlt (show x.1 < 32 by omega)
        have hxe : x = (x.1, 0) := Prod.ext rfl w
        rw [← hxe, ← htk] at b0
        have b1 : bitsOf (c.take (j + 1)) 1 = bitsOf (c.take j) 1 := by rw [htk, hxe]; exact bo_ot (by decide)
        obtain ⟨M2, g1, g2⟩ := ih m (j + 1) (by omega) (by omega) (m0 (m0 M1 39 (nI (bitsOf (c.take (j + 1)) 0))) 40 (nI (bitsOf (c.take (j + 1)) 1))) ((e1.s0 (Or.inr (Or.inl rfl))).s0 (Or.inr (Or.inr rfl))) e2 e3 rfl rfl
        refine ⟨M2, ?_, g2⟩
        have z48 := a48 M1 e3
        rw [w, nI_0] at z48
        have z48' := a48 (m0 M1 39 (nI (bitsOf (c.take (j + 1)) 0))) e3
        rw [w, nI_0] at z48'
        rw [io_0 N m hjl (a := nI (bitsOf (c.take j) 0)) (by rw [gi_35_39, e4]) gr_35_48 z48 gr_35_47 (a47 M1 e2) (A1 := hp X C (m0 M1 39 (nI (bitsOf (c.take (j + 1)) 0))) T) (by rw [b0, pi_35_39]) (b := nI (bitsOf (c.take (j + 1)) 1)) (by rw [gi_35_40, b1]; exact congrArg some e5) gr_35_48 z48' (A2 := hp X C (m0 (m0 M1 39 (nI (bitsOf (c.take (j + 1)) 0))) 40 (nI (bitsOf (c.take (j + 1)) 1))) T) (by rw [oz, pi_35_40]), nI_1]
        exact g1
      · have b0 := bo_or (w := 1) hpt hlt (show x.1 < 32 by omega)
        have hxe : x = (x.1, 1) := Prod.ext rfl w
        rw [← hxe, ← htk] at b0
        have b1 : bitsOf (c.take (j + 1)) 0 = bitsOf (c.take j) 0 := by rw [htk, hxe]; exact bo_ot (by decide)
        obtain ⟨M2, g1, g2⟩ := ih m (j + 1) (by omega) (by omega) (m0 (m0 M1 39 (nI (bitsOf (c.take (j + 1)) 0))) 40 (nI (bitsOf (c.take (j + 1)) 1))) ((e1.s0 (Or.inr (Or.inl rfl))).s0 (Or.inr (Or.inr rfl))) e2 e3 rfl rfl
        refine ⟨M2, ?_, g2⟩
        have z48 := a48 M1 e3
        rw [w, nI_1'] at z48
        have z48' := a48 (m0 M1 39 (nI (bitsOf (c.take (j + 1)) 0))) e3
        rw [w, nI_1'] at z48'
        rw [io_1 N m hjl (a := nI (bitsOf (c.take (j + 1)) 0)) (by rw [gi_35_39, b1, e4]) gr_35_48 z48 (A1 := hp X C (m0 M1 39 (nI (bitsOf (c.take (j + 1)) 0))) T) (by rw [oz, pi_35_39]) (b := nI (bitsOf (c.take j) 1)) (by rw [gi_35_40]; exact congrArg some e5) gr_35_48 z48' gr_35_47 (a47 _ e2) (A2 := hp X C (m0 (m0 M1 39 (nI (bitsOf (c.take (j + 1)) 0))) 40 (nI (bitsOf (c.take (j + 1)) 1))) T) (by rw [b0, pi_35_40]), nI_1]
        exact g1
  obtain ⟨M2, g1, g2, g3, g4, g5, g6⟩ := lp c.length N 0 (by omega) (by omega) (m0 (m0 M 39 0) 40 0) ((EqN.rf.s0 (Or.inr (Or.inl rfl))).s0 (Or.inr (Or.inr rfl))) rfl rfl rfl rfl
  have hT2 : ∀ f, MTab t 0 (mT M2 f).2.2 := fun f => hT.agr hW ((g2.sa (k := 38) (f := f) (Or.inl rfl)).agr 0)
  have hr2 : ∀ f, MRs (mT M2 f) s r := fun f => (hr.n hs wr g2).mT
  have a10 : ∀ f, aI (hp X C (mT M2 f) T) (some 44) 0 0 = some (nI (t_bk t).length) := fun f => by rw [az_44_0, (hT2 f).2.2.1]
  have lp2 : ∀ (l : List AK) (m i : Nat) (f : Nat → Int32), (t_bk t).drop i = l → i + l.length = (t_bk t).length → l.length < m → ∃ f', l_X11_isMended_86 N m (hp X C (mT M2 f) T) (some 35) (nI s) (nI i) = some (b01 (l.all fun x => x.2.2.2.2 == -1 || (letP r.1 r.2.length (hM (evO t x.1 x.2.1 x.2.2.1) x.2.2.2.1 r.2 (nI (bitsOf c 0))) (ltM r.2 (nI (bitsOf c 1))) == (x.2.2.2.2 == 1))), hp X C (mT M2 f') T) := by
    intro l
    induction l with
    | nil =>
      intro m i f h1 h2 h3
      obtain ⟨m, rfl⟩ : ∃ k, m = k + 1 := ⟨m - 1, by omega⟩
      rw [List.length_nil] at h2
      exact ⟨f, ie_end N m gr_35_10 (a10 f) (nI_le (by omega) (by omega))⟩
    | cons x l ih =>
      intro m i f h1 h2 h3
      obtain ⟨m, rfl⟩ : ∃ k, m = k + 1 := ⟨m - 1, by omega⟩
      rw [List.length_cons] at h2 h3
      have hx : (t_bk t)[i]? = some x := by
        have := congrArg (fun z => z[0]?) h1
        simp only [List.getElem?_drop, Nat.add_zero, List.getElem?_cons_zero] at this
        exact this
      have hd : (t_bk t).drop (i + 1) = l := by
        have := congrArg (fun z => z.drop 1) h1
        simpa [List.drop_drop, Nat.add_comm] using this
      have a12 : ∀ f, aI (hp X C (mT M2 f) T) (some 46) 0 (nI i) = some x.2.2.2.2 := fun f => by
        have := ((hT2 f).2.2.2.2.2 i x hx).2.2.2.2
        rw [Nat.mul_zero, Nat.zero_add] at this
        rw [ai_46 (by omega), this]
      have hlt : ¬ nI (t_bk t).length ≤ nI i := nI_ge (by omega) (by omega)
      rw [List.all_cons]
      by_cases hm : x.2.2.2.2 = -1
      · obtain ⟨f', g1⟩ := ih m (i + 1) f hd (by omega) (by omega)
        refine ⟨f', ?_⟩
        have a12' := a12 f
        rw [hm] at a12'
        rw [ie_un N m gr_35_10 (a10 f) hlt gr_35_12 a12', nI_1, g1, hm]
        rfl
      · obtain ⟨f1, k1⟩ := m_askG (X := X) (C := C) (T := T) (M := mT M2 f) N hN hs (hT2 f) hW wr (hr2 f) hx
        rw [mT_mT, mT_1, g5, g6] at k1
        have st := ie_mk N m (gr_35_10 (X := X) (C := C) (M := mT M2 f) (T := T)) (a10 f) hlt gr_35_12 (a12 f) hm _ k1 gr_35_12 (a12 f1)
        have e0 : (x.2.2.2.2 == -1) = false := by simp [hm]
        rw [e0, Bool.false_or]
        by_cases hq : letP r.1 r.2.length (hM (evO t x.1 x.2.1 x.2.2.1) x.2.2.2.1 r.2 (nI (bitsOf c 0))) (ltM r.2 (nI (bitsOf c 1))) = (x.2.2.2.2 == 1)
        · obtain ⟨f', g1⟩ := ih m (i + 1) f1 hd (by omega) (by omega)
          refine ⟨f', ?_⟩
          rw [st, if_pos hq, nI_1, g1, hq]
          simp
        · refine ⟨f1, ?_⟩
          rw [st, if_neg hq]
          have : (letP r.1 r.2.length (hM (evO t x.1 x.2.1 x.2.2.1) x.2.2.2.1 r.2 (nI (bitsOf c 0))) (ltM r.2 (nI (bitsOf c 1))) == (x.2.2.2.2 == 1)) = false := by
            rw [beq_eq_false_iff_ne]; exact hq
          rw [this]; rfl
  obtain ⟨f', k1⟩ := lp2 (t_bk t) N 0 (M2.2.2 38) rfl (by omega) (by omega)
  rw [mT_id, nI_0] at k1
  rw [nI_0] at g1
  refine ⟨mT M2 f', im_ab N io_35 (pi_35_39 0) (pi_35_40 0) _ (g1.trans k1), g2.sa (Or.inl rfl), fun j x hx => ?_⟩
  rw [mT_n (by decide), mT_n (by decide), g3, g4]
  exact hc j x hx
end MMD
