/-! tried, decides, lost -/
abbrev AK : Type := Nat × Nat × Nat × Nat × Int32
def cntP (P : AK → Bool) (bk : List AK) (i : Nat) : Nat := (bk.drop i).countP P
theorem cntP_s {P : AK → Bool} {bk : List AK} {i : Nat} {p : AK} (h : bk[i]? = some p) : cntP P bk i = (cond (P p) 1 0) + cntP P bk (i + 1) := by
  have hi := at_lt h
  have e : bk.drop i = p :: bk.drop (i + 1) := by
    rw [List.drop_eq_getElem_cons hi]
    rw [List.getElem?_eq_getElem hi] at h
    cases h; rfl
  unfold cntP
  rw [e, List.countP_cons]
  cases P p <;> simp <;> omega
theorem cntP_e {P : AK → Bool} {bk : List AK} {i : Nat} (h : bk.length ≤ i) : cntP P bk i = 0 := by
  unfold cntP; rw [List.drop_eq_nil_of_le h]; rfl
def lostR (P : AK → Bool) : List AK → Nat → Nat → Int32
  | [], _, _ => -1
  | x :: l, i, j => if P x then (if j = 0 then nI i else lostR P l (i + 1) (j - 1)) else lostR P l (i + 1) j
theorem drop_s {bk : List AK} {i : Nat} {p : AK} (h : bk[i]? = some p) : bk.drop i = p :: bk.drop (i + 1) := by
  have hi := at_lt h
  rw [List.drop_eq_getElem_cons hi]
  rw [List.getElem?_eq_getElem hi] at h
  cases h; rfl
section TA
variable {A A1 A2 A3 : LH} {q qt qo qa p p' : Option Nat} {v v1 v2 v3 v4 v5 v6 v7 n x : Int32}
theorem tr_end (N m : Nat) (h1 : gR A q 10 2 = some qo) (h2 : gR A qo 8 2 = some qa) (h3 : gI A qa 5 3 = some n) (h4 : n ≤ v4) : l_X10_tried_17 N (m + 1) A q p v3 v4 = some (v3, A) := by
  show b_X10_tried_17 N _ A q p v3 v4 = _
  unfold b_X10_tried_17
  (repeat (first | with_reducible rfl | refine (bnd_eq (by first | with_reducible assumption)).trans ?_ | refine (if_pos (by first | with_reducible assumption | with_reducible rfl | decide | (dsimp only; first | with_reducible assumption | with_reducible rfl | decide))).trans ?_ | refine (if_neg (by first | with_reducible assumption | decide | (dsimp only; first | with_reducible assumption | decide))).trans ?_))
theorem tr_st (N m : Nat) (h1 : gR A q 10 2 = some qo) (h2 : gR A qo 8 2 = some qa) (h3 : gI A qa 5 3 = some n) (h4 : ¬ n ≤ v4) (h5 : gR A q 10 4 = some qt) (h6 : f_X9_standAtAsk A qt qo v4 = some A1) (h7 : gR A1 q 10 4 = some qt) (b : Bool) (h8 : f_X9_lets N A1 qt p = some (b01 b, A2)) : l_X10_tried_17 N (m + 1) A q p v3 v4 = l_X10_tried_17 N m A2 q p (cond b (v3 + 1) v3) (v4 + 1) := by
  show b_X10_tried_17 N _ A q p v3 v4 = _
  unfold b_X10_tried_17
  cases b with
  | true =>
    show _ = l_X10_tried_17 N m A2 q p (v3 + 1) (v4 + 1)
    (repeat (first | with_reducible rfl | refine (bnd_eq (by first | with_reducible assumption)).trans ?_ | refine (if_pos (by first | with_reducible assumption | with_reducible rfl | decide | (dsimp only; first | with_reducible assumption | with_reducible rfl | decide))).trans ?_ | refine (if_neg (by first | with_reducible assumption | decide | (dsimp only; first | with_reducible assumption | decide))).trans ?_))
  | false =>
    show _ = l_X10_tried_17 N m A2 q p v3 (v4 + 1)
    (repeat (first | with_reducible rfl | refine (bnd_eq (by first | with_reducible assumption)).trans ?_ | refine (if_pos (by first | with_reducible assumption | with_reducible rfl | decide | (dsimp only; first | with_reducible assumption | with_reducible rfl | decide))).trans ?_ | refine (if_neg (by first | with_reducible assumption | decide | (dsimp only; first | with_reducible assumption | decide))).trans ?_))
theorem mt_end (N m : Nat) (h1 : gR A q 11 10 = some qa) (h2 : aI A qa 0 0 = some n) (h4 : n ≤ v3) : l_X11_tried_29 N (m + 1) A q v1 v2 v3 = some (v2, A) := by
  show b_X11_tried_29 N _ A q v1 v2 v3 = _
  unfold b_X11_tried_29
  (repeat (first | with_reducible rfl | refine (bnd_eq (by first | with_reducible assumption)).trans ?_ | refine (if_pos (by first | with_reducible assumption | with_reducible rfl | decide | (dsimp only; first | with_reducible assumption | with_reducible rfl | decide))).trans ?_ | refine (if_neg (by first | with_reducible assumption | decide | (dsimp only; first | with_reducible assumption | decide))).trans ?_))
theorem mt_st (N m : Nat) (h1 : gR A q 11 10 = some qa) (h2 : aI A qa 0 0 = some n) (h4 : ¬ n ≤ v3) (b : Bool) (h5 : f_X11_isAskLet N A q v1 v3 = some (b01 b, A1)) : l_X11_tried_29 N (m + 1) A q v1 v2 v3 = l_X11_tried_29 N m A1 q v1 (v2 + b01 b) (v3 + 1) := by
  show b_X11_tried_29 N _ A q v1 v2 v3 = _
  unfold b_X11_tried_29
  cases b with
  | true =>
    show _ = l_X11_tried_29 N m A1 q v1 (v2 + 1) (v3 + 1)
    (repeat (first | with_reducible rfl | refine (bnd_eq (by first | with_reducible assumption)).trans ?_ | refine (if_pos (by first | with_reducible assumption | with_reducible rfl | decide | (dsimp only; first | with_reducible assumption | with_reducible rfl | decide))).trans ?_ | refine (if_neg (by first | with_reducible assumption | decide | (dsimp only; first | with_reducible assumption | decide))).trans ?_))
  | false =>
    show _ = l_X11_tried_29 N m A1 q v1 (v2 + 0) (v3 + 1)
    (repeat (first | with_reducible rfl | refine (bnd_eq (by first | with_reducible assumption)).trans ?_ | refine (if_pos (by first | with_reducible assumption | with_reducible rfl | decide | (dsimp only; first | with_reducible assumption | with_reducible rfl | decide))).trans ?_ | refine (if_neg (by first | with_reducible assumption | decide | (dsimp only; first | with_reducible assumption | decide))).trans ?_))
theorem al_ab (N : Nat) {x1 x2 x3 x4 : Int32} (h0 : isO A q 11 = true) (h1 : gR A q 11 11 = some qa) (h2 : aI A qa 0 (4 * v2) = some x1) (h3 : aI A qa 0 (4 * v2 + 1) = some x2) (h4 : aI A qa 0 (4 * v2 + 2) = some x3) (h5 : aI A qa 0 (4 * v2 + 3) = some x4) (b : Bool) (h6 : f_X11_isLet N A q v1 x1 x2 x3 x4 = some (b01 b, A1)) : f_X11_isAskLet N A q v1 v2 = some (b01 b, A1) := by
  unfold f_X11_isAskLet
  rw [if_pos h0, show b_X11_isAskLet N A q v1 v2 = some (b01 b, A1) by unfold b_X11_isAskLet; (repeat (first | with_reducible rfl | refine (bnd_eq (by first | with_reducible assumption)).trans ?_ | refine (if_pos (by first | with_reducible assumption | with_reducible rfl | decide | (dsimp only; first | with_reducible assumption | with_reducible rfl | decide))).trans ?_ | refine (if_neg (by first | with_reducible assumption | decide | (dsimp only; first | with_reducible assumption | decide))).trans ?_))]
  exact zc_b b A1
theorem dc_end (N m : Nat) (h1 : gR A q 10 2 = some qo) (h2 : gR A qo 8 2 = some qa) (h3 : gI A qa 5 3 = some n) (h4 : n ≤ v5) : l_X10_decides_26 N (m + 1) A q v2 p v4 v5 = some (v4, A) := by
  show b_X10_decides_26 N _ A q v2 p v4 v5 = _
  unfold b_X10_decides_26
  (repeat (first | with_reducible rfl | refine (bnd_eq (by first | with_reducible assumption)).trans ?_ | refine (if_pos (by first | with_reducible assumption | with_reducible rfl | decide | (dsimp only; first | with_reducible assumption | with_reducible rfl | decide))).trans ?_ | refine (if_neg (by first | with_reducible assumption | decide | (dsimp only; first | with_reducible assumption | decide))).trans ?_))
theorem dc_st (N m : Nat) (h1 : gR A q 10 2 = some qo) (h2 : gR A qo 8 2 = some qa) (h3 : gI A qa 5 3 = some n) (h4 : ¬ n ≤ v5) (h5 : gR A q 10 4 = some qt) (h6 : f_X9_standAtAsk A qt qo v5 = some A1) (h7 : gR A1 q 10 4 = some qt) (h8 : f_X9_decider N A1 qt p = some (x, A2)) (b : Bool) (hb : b = true ↔ x = v2) : l_X10_decides_26 N (m + 1) A q v2 p v4 v5 = l_X10_decides_26 N m A2 q v2 p (cond b (v4 + 1) v4) (v5 + 1) := by
  show b_X10_decides_26 N _ A q v2 p v4 v5 = _
  unfold b_X10_decides_26
  cases b with
  | true =>
    have hx := hb.mp rfl
    show _ = l_X10_decides_26 N m A2 q v2 p (v4 + 1) (v5 + 1)
    (repeat (first | with_reducible rfl | refine (bnd_eq (by first | with_reducible assumption)).trans ?_ | refine (if_pos (by first | with_reducible assumption | with_reducible rfl | decide | (dsimp only; first | with_reducible assumption | with_reducible rfl | decide))).trans ?_ | refine (if_neg (by first | with_reducible assumption | decide | (dsimp only; first | with_reducible assumption | decide))).trans ?_))
  | false =>
    have hx : ¬ x = v2 := fun z => Bool.noConfusion (hb.mpr z)
    show _ = l_X10_decides_26 N m A2 q v2 p v4 (v5 + 1)
    (repeat (first | with_reducible rfl | refine (bnd_eq (by first | with_reducible assumption)).trans ?_ | refine (if_pos (by first | with_reducible assumption | with_reducible rfl | decide | (dsimp only; first | with_reducible assumption | with_reducible rfl | decide))).trans ?_ | refine (if_neg (by first | with_reducible assumption | decide | (dsimp only; first | with_reducible assumption | decide))).trans ?_))
theorem md_end (N m : Nat) (h1 : gR A q 11 10 = some qa) (h2 : aI A qa 0 0 = some n) (h4 : n ≤ v4) : l_X11_decides_31 N (m + 1) A q v1 v2 v3 v4 = some (v3, A) := by
  show b_X11_decides_31 N _ A q v1 v2 v3 v4 = _
  unfold b_X11_decides_31
  (repeat (first | with_reducible rfl | refine (bnd_eq (by first | with_reducible assumption)).trans ?_ | refine (if_pos (by first | with_reducible assumption | with_reducible rfl | decide | (dsimp only; first | with_reducible assumption | with_reducible rfl | decide))).trans ?_ | refine (if_neg (by first | with_reducible assumption | decide | (dsimp only; first | with_reducible assumption | decide))).trans ?_))
theorem md_st (N m : Nat) {qb : Option Nat} {x1 x2 x3 x4 : Int32} (h1 : gR A q 11 10 = some qa) (h2 : aI A qa 0 0 = some n) (h4 : ¬ n ≤ v4) (g1 : gR A q 11 11 = some qb) (g2 : aI A qb 0 (4 * v4) = some x1) (g3 : aI A qb 0 (4 * v4 + 1) = some x2) (g4 : aI A qb 0 (4 * v4 + 2) = some x3) (g5 : aI A qb 0 (4 * v4 + 3) = some x4) (h5 : f_X11_decider N A q v1 x1 x2 x3 x4 = some (x, A1)) (b : Bool) (hb : b = true ↔ x = v2) : l_X11_decides_31 N (m + 1) A q v1 v2 v3 v4 = l_X11_decides_31 N m A1 q v1 v2 (v3 + b01 b) (v4 + 1) := by
  show b_X11_decides_31 N _ A q v1 v2 v3 v4 = _
  unfold b_X11_decides_31
  cases b with
  | true =>
    have hx := hb.mp rfl
    show _ = l_X11_decides_31 N m A1 q v1 v2 (v3 + 1) (v4 + 1)
    (repeat (first | with_reducible rfl | refine (bnd_eq (by first | with_reducible assumption)).trans ?_ | refine (if_pos (by first | with_reducible assumption | with_reducible rfl | decide | (dsimp only; first | with_reducible assumption | with_reducible rfl | decide))).trans ?_ | refine (if_neg (by first | with_reducible assumption | decide | (dsimp only; first | with_reducible assumption | decide))).trans ?_))
  | false =>
    have hx : ¬ x = v2 := fun z => Bool.noConfusion (hb.mpr z)
    show _ = l_X11_decides_31 N m A1 q v1 v2 (v3 + 0) (v4 + 1)
    (repeat (first | with_reducible rfl | refine (bnd_eq (by first | with_reducible assumption)).trans ?_ | refine (if_pos (by first | with_reducible assumption | with_reducible rfl | decide | (dsimp only; first | with_reducible assumption | with_reducible rfl | decide))).trans ?_ | refine (if_neg (by first | with_reducible assumption | decide | (dsimp only; first | with_reducible assumption | decide))).trans ?_))
theorem lo_end (N m : Nat) (h1 : gR A q 10 2 = some qo) (h2 : gR A qo 8 2 = some qa) (h3 : gI A qa 5 3 = some n) (h4 : n ≤ v7) : l_X10_lost_36 N (m + 1) A q v3 p p' v6 v7 = some (-1, A) := by
  show b_X10_lost_36 N _ A q v3 p p' v6 v7 = _
  unfold b_X10_lost_36
  (repeat (first | with_reducible rfl | refine (bnd_eq (by first | with_reducible assumption)).trans ?_ | refine (if_pos (by first | with_reducible assumption | with_reducible rfl | decide | (dsimp only; first | with_reducible assumption | with_reducible rfl | decide))).trans ?_ | refine (if_neg (by first | with_reducible assumption | decide | (dsimp only; first | with_reducible assumption | decide))).trans ?_))
theorem lo_0 (N m : Nat) (h1 : gR A q 10 2 = some qo) (h2 : gR A qo 8 2 = some qa) (h3 : gI A qa 5 3 = some n) (h4 : ¬ n ≤ v7) (h5 : gR A q 10 4 = some qt) (h6 : f_X9_standAtAsk A qt qo v7 = some A1) (h7 : gR A1 q 10 4 = some qt) (h8 : f_X9_lets N A1 qt p = some (0, A2)) : l_X10_lost_36 N (m + 1) A q v3 p p' v6 v7 = l_X10_lost_36 N m A2 q v3 p p' v6 (v7 + 1) := by
  show b_X10_lost_36 N _ A q v3 p p' v6 v7 = _
  unfold b_X10_lost_36
  (repeat (first | with_reducible rfl | refine (bnd_eq (by first | with_reducible assumption)).trans ?_ | refine (if_pos (by first | with_reducible assumption | with_reducible rfl | decide | (dsimp only; first | with_reducible assumption | with_reducible rfl | decide))).trans ?_ | refine (if_neg (by first | with_reducible assumption | decide | (dsimp only; first | with_reducible assumption | decide))).trans ?_))
theorem lo_1 (N m : Nat) (h1 : gR A q 10 2 = some qo) (h2 : gR A qo 8 2 = some qa) (h3 : gI A qa 5 3 = some n) (h4 : ¬ n ≤ v7) (h5 : gR A q 10 4 = some qt) (h6 : f_X9_standAtAsk A qt qo v7 = some A1) (h7 : gR A1 q 10 4 = some qt) (h8 : f_X9_lets N A1 qt p = some (1, A2)) (h9 : gR A2 q 10 4 = some qt) (h10 : f_X9_lets N A2 qt p' = some (1, A3)) : l_X10_lost_36 N (m + 1) A q v3 p p' v6 v7 = l_X10_lost_36 N m A3 q v3 p p' v6 (v7 + 1) := by
  show b_X10_lost_36 N _ A q v3 p p' v6 v7 = _
  unfold b_X10_lost_36
  (repeat (first | with_reducible rfl | refine (bnd_eq (by first | with_reducible assumption)).trans ?_ | refine (if_pos (by first | with_reducible assumption | with_reducible rfl | decide | (dsimp only; first | with_reducible assumption | with_reducible rfl | decide))).trans ?_ | refine (if_neg (by first | with_reducible assumption | decide | (dsimp only; first | with_reducible assumption | decide))).trans ?_))
theorem lo_hit (N m : Nat) (h1 : gR A q 10 2 = some qo) (h2 : gR A qo 8 2 = some qa) (h3 : gI A qa 5 3 = some n) (h4 : ¬ n ≤ v7) (h5 : gR A q 10 4 = some qt) (h6 : f_X9_standAtAsk A qt qo v7 = some A1) (h7 : gR A1 q 10 4 = some qt) (h8 : f_X9_lets N A1 qt p = some (1, A2)) (h9 : gR A2 q 10 4 = some qt) (h10 : f_X9_lets N A2 qt p' = some (0, A3)) (h11 : v6 = v3) : l_X10_lost_36 N (m + 1) A q v3 p p' v6 v7 = some (v7, A3) := by
  show b_X10_lost_36 N _ A q v3 p p' v6 v7 = _
  unfold b_X10_lost_36
  (repeat (first | with_reducible rfl | refine (bnd_eq (by first | with_reducible assumption)).trans ?_ | refine (if_pos (by first | with_reducible assumption | with_reducible rfl | decide | (dsimp only; first | with_reducible assumption | with_reducible rfl | decide))).trans ?_ | refine (if_neg (by first | with_reducible assumption | decide | (dsimp only; first | with_reducible assumption | decide))).trans ?_))
theorem lo_go (N m : Nat) (h1 : gR A q 10 2 = some qo) (h2 : gR A qo 8 2 = some qa) (h3 : gI A qa 5 3 = some n) (h4 : ¬ n ≤ v7) (h5 : gR A q 10 4 = some qt) (h6 : f_X9_standAtAsk A qt qo v7 = some A1) (h7 : gR A1 q 10 4 = some qt) (h8 : f_X9_lets N A1 qt p = some (1, A2)) (h9 : gR A2 q 10 4 = some qt) (h10 : f_X9_lets N A2 qt p' = some (0, A3)) (h11 : ¬ v6 = v3) : l_X10_lost_36 N (m + 1) A q v3 p p' v6 v7 = l_X10_lost_36 N m A3 q v3 p p' (v6 + 1) (v7 + 1) := by
  show b_X10_lost_36 N _ A q v3 p p' v6 v7 = _
  unfold b_X10_lost_36
  (repeat (first | with_reducible rfl | refine (bnd_eq (by first | with_reducible assumption)).trans ?_ | refine (if_pos (by first | with_reducible assumption | with_reducible rfl | decide | (dsimp only; first | with_reducible assumption | with_reducible rfl | decide))).trans ?_ | refine (if_neg (by first | with_reducible assumption | decide | (dsimp only; first | with_reducible assumption | decide))).trans ?_))
theorem ml_end (N m : Nat) (h1 : gR A q 11 10 = some qa) (h2 : aI A qa 0 0 = some n) (h4 : n ≤ v5) : l_X11_lost_43 N (m + 1) A q v1 v2 v4 v5 = some (-1, A) := by
  show b_X11_lost_43 N _ A q v1 v2 v4 v5 = _
  unfold b_X11_lost_43
  (repeat (first | with_reducible rfl | refine (bnd_eq (by first | with_reducible assumption)).trans ?_ | refine (if_pos (by first | with_reducible assumption | with_reducible rfl | decide | (dsimp only; first | with_reducible assumption | with_reducible rfl | decide))).trans ?_ | refine (if_neg (by first | with_reducible assumption | decide | (dsimp only; first | with_reducible assumption | decide))).trans ?_))
theorem ml_0 (N m : Nat) (h1 : gR A q 11 10 = some qa) (h2 : aI A qa 0 0 = some n) (h4 : ¬ n ≤ v5) (h5 : f_X11_isAskLet N A q v1 v5 = some (0, A1)) : l_X11_lost_43 N (m + 1) A q v1 v2 v4 v5 = l_X11_lost_43 N m A1 q v1 v2 v4 (v5 + 1) := by
  show b_X11_lost_43 N _ A q v1 v2 v4 v5 = _
  unfold b_X11_lost_43
  (repeat (first | with_reducible rfl | refine (bnd_eq (by first | with_reducible assumption)).trans ?_ | refine (if_pos (by first | with_reducible assumption | with_reducible rfl | decide | (dsimp only; first | with_reducible assumption | with_reducible rfl | decide))).trans ?_ | refine (if_neg (by first | with_reducible assumption | decide | (dsimp only; first | with_reducible assumption | decide))).trans ?_))
theorem ml_1 (N m : Nat) (h1 : gR A q 11 10 = some qa) (h2 : aI A qa 0 0 = some n) (h4 : ¬ n ≤ v5) (h5 : f_X11_isAskLet N A q v1 v5 = some (1, A1)) (h6 : f_X11_isAskLet N A1 q v2 v5 = some (1, A2)) : l_X11_lost_43 N (m + 1) A q v1 v2 v4 v5 = l_X11_lost_43 N m A2 q v1 v2 v4 (v5 + 1) := by
  show b_X11_lost_43 N _ A q v1 v2 v4 v5 = _
  unfold b_X11_lost_43
  (repeat (first | with_reducible rfl | refine (bnd_eq (by first | with_reducible assumption)).trans ?_ | refine (if_pos (by first | with_reducible assumption | with_reducible rfl | decide | (dsimp only; first | with_reducible assumption | with_reducible rfl | decide))).trans ?_ | refine (if_neg (by first | with_reducible assumption | decide | (dsimp only; first | with_reducible assumption | decide))).trans ?_))
theorem ml_hit (N m : Nat) (h1 : gR A q 11 10 = some qa) (h2 : aI A qa 0 0 = some n) (h4 : ¬ n ≤ v5) (h5 : f_X11_isAskLet N A q v1 v5 = some (1, A1)) (h6 : f_X11_isAskLet N A1 q v2 v5 = some (0, A2)) (h7 : v4 = 0) : l_X11_lost_43 N (m + 1) A q v1 v2 v4 v5 = some (v5, A2) := by
  show b_X11_lost_43 N _ A q v1 v2 v4 v5 = _
  unfold b_X11_lost_43
  (repeat (first | with_reducible rfl | refine (bnd_eq (by first | with_reducible assumption)).trans ?_ | refine (if_pos (by first | with_reducible assumption | with_reducible rfl | decide | (dsimp only; first | with_reducible assumption | with_reducible rfl | decide))).trans ?_ | refine (if_neg (by first | with_reducible assumption | decide | (dsimp only; first | with_reducible assumption | decide))).trans ?_))
theorem ml_go (N m : Nat) (h1 : gR A q 11 10 = some qa) (h2 : aI A qa 0 0 = some n) (h4 : ¬ n ≤ v5) (h5 : f_X11_isAskLet N A q v1 v5 = some (1, A1)) (h6 : f_X11_isAskLet N A1 q v2 v5 = some (0, A2)) (h7 : ¬ v4 = 0) : l_X11_lost_43 N (m + 1) A q v1 v2 v4 v5 = l_X11_lost_43 N m A2 q v1 v2 (v4 + (-1)) (v5 + 1) := by
  show b_X11_lost_43 N _ A q v1 v2 v4 v5 = _
  unfold b_X11_lost_43
  (repeat (first | with_reducible rfl | refine (bnd_eq (by first | with_reducible assumption)).trans ?_ | refine (if_pos (by first | with_reducible assumption | with_reducible rfl | decide | (dsimp only; first | with_reducible assumption | with_reducible rfl | decide))).trans ?_ | refine (if_neg (by first | with_reducible assumption | decide | (dsimp only; first | with_reducible assumption | decide))).trans ?_))
end TA
section TRD
variable {X : XS} {C : CS} {M : MS} {T : TS} {S : SG} {K : Nat} {mu : List Nat}
/-- how an ASK of THE BOOK is let -/
def akL (t : TLD) (r : RSV) (x : AK) : Bool := letR (evO t x.1 x.2.1 x.2.2.1) x.2.2.2.1 r
def akD (t : TLD) (r : RSV) (k : Nat) (x : AK) : Bool := decR (evO t x.1 x.2.1 x.2.2.1) x.2.2.2.1 r == some k
theorem EqT.tab {C' : CS} {t : TLD} (h : EqT C C') (hR : RTab t (C.1 9) (C.1 10) (C.1 11) (C.2.1 2) (C.2.1 3) (C.2.1 4)) : RTab t (C'.1 9) (C'.1 10) (C'.1 11) (C'.2.1 2) (C'.2.1 3) (C'.2.1 4) := by
  obtain ⟨h1, h2, h3⟩ := h
  rw [h1 9 (by omega), h1 10 (by omega), h1 11 (by omega), h2 2 (by omega), h2 3 (by omega), h2 4 (by omega)]; exact hR
/-- a question at an ASK: the class -/
theorem k_ask (N : Nat) (hN : 601 ≤ N) {t : TLD} {C' : CS} {r : RSV} {q : Nat} (hE : EqT C C') (hR : RTab t (C.1 9) (C.1 10) (C.1 11) (C.2.1 2) (C.2.1 3) (C.2.1 4)) (hW : WTld t) (wr : WRs r) (hr : isRl mu T q r) {i : Nat} {x : AK} (hx : (t_bk t)[i]? = some x) : ∃ C1, f_X9_standAtAsk (hp X C' M T) (some 30) (some 18) (nI i) = some (hp X C1 M T) ∧ EqT C C1 ∧ St C1 (evO t x.1 x.2.1 x.2.2.1) x.2.2.2.1 ∧ WEv (evO t x.1 x.2.1 x.2.2.1) := by
  obtain ⟨C1, c1, c2, c3⟩ := k_atAsk (X := X) (M := M) (T := T) (hE.tab hR) hW hx
  have w := hW.2.2.2.2.2 i x hx
  exact ⟨C1, c1, hE.tr c2, c3, WEv.of hW w.1 w.2.1 w.2.2.1⟩
theorem k_triedL (N : Nat) (hN : 601 ≤ N) {t : TLD} {r : RSV} {q : Nat} (hR : RTab t (C.1 9) (C.1 10) (C.1 11) (C.2.1 2) (C.2.1 3) (C.2.1 4)) (hW : WTld t) (wr : WRs r) (hr : isRl mu T q r) : ∀ (d m c i : Nat) (C' : CS), EqT C C' → (t_bk t).length = i + d → d < m → ∃ C'', l_X10_tried_17 N m (hp X C' M T) (some 8) (some q) (nI c) (nI i) = some (nI (c + cntP (akL t r) (t_bk t) i), hp X C'' M T) ∧ EqT C C'' := by
  have hl := hW.2.2.1
  intro d
  induction d with
  | zero =>
    intro m c i C' hE h1 h2
    obtain ⟨m, rfl⟩ : ∃ k, m = k + 1 := ⟨m - 1, by omega⟩
    refine ⟨C', ?_, hE⟩
    rw [cntP_e (by omega), Nat.add_zero]
    exact tr_end N m gr_8_2 gr_18_2 (by rw [gi_23_3, (hE.tab hR).2.2.1]) (nI_le (by omega) (by omega))
  | succ d ih =>
    intro m c i C' hE h1 h2
    obtain ⟨m, rfl⟩ : ∃ k, m = k + 1 := ⟨m - 1, by omega⟩
    obtain ⟨x, hx⟩ := at_ex (t_bk t) (show i < _ by omega)
    have w := hW.2.2.2.2.2 i x hx
    obtain ⟨C1, c1, c2, c3, c4⟩ := k_ask (X := X) (M := M) N hN hE hR hW wr hr hx
    obtain ⟨f, v, e1⟩ := k_let (X := X) (M := M) N hN w.2.2.2.1 c3 c4 wr hr
    have st := tr_st (v3 := nI c) N m (gr_8_2 (X := X) (C := C') (M := M) (T := T)) gr_18_2 (by rw [gi_23_3, (hE.tab hR).2.2.1]) (nI_ge (show i < _ by omega) (by omega)) gr_8_4 c1 gr_8_4 (letR (evO t x.1 x.2.1 x.2.2.1) x.2.2.2.1 r) e1
    obtain ⟨C'', g1, g2⟩ := ih m (c + cond (akL t r x) 1 0) (i + 1) (kT C1 f v) c2.kT (by omega) (by omega)
    refine ⟨C'', ?_, g2⟩
    have : cond (letR (evO t x.1 x.2.1 x.2.2.1) x.2.2.2.1 r) (nI c + 1) (nI c) = nI (c + cond (akL t r x) 1 0) := by
      show cond (akL t r x) (nI c + 1) (nI c) = _
      cases akL t r x
      · rfl
      · exact nI_1 c
    rw [st, cntP_s hx, ← Nat.add_assoc, this, nI_1]
    exact g1
theorem m_askLet (N : Nat) (hN : 1820 ≤ N) {t : TLD} {r : RSV} {s : Nat} (hs : s < 4) (hT : MTab t 0 M.2.2) (hW : WTld t) (wr : WRs r) (hr : MRs M s r) (h39 : M.1 39 = 0) (h40 : M.1 40 = 0) {i : Nat} {x : AK} (hx : (t_bk t)[i]? = some x) : ∃ f, f_X11_isAskLet N (hp X C M T) (some 35) (nI s) (nI i) = some (b01 (akL t r x), hp X C (mT M f) T) := by
  have w := hW.2.2.2.2.2 i x hx
  have b := hT.2.2.2.2.2 i x hx
  have hi := at_lt hx
  have h2 := hW.2.2.1
  simp only [Nat.mul_zero, Nat.zero_add] at b
  obtain ⟨f, hf⟩ := m_let0 (X := X) (C := C) (T := T) (e := evO t x.1 x.2.1 x.2.2.1) N hN hs w.2.2.2.1 (MEv.of hW hT w.1 w.2.2.1) (WEv.of hW w.1 w.2.1 w.2.2.1) wr hr h39 h40
  have e0 : (4 : Int32) * nI i = nI (i * 4) := by rw [← nI_4, pk_mul, Nat.mul_comm]
  refine ⟨f, al_ab N io_35 gr_35_11 ?_ ?_ ?_ ?_ _ hf⟩
  · rw [e0, ai_45 (by omega), b.1]; rfl
  · rw [e0, nI_1, ai_45 (by omega), b.2.1]; rfl
  · rw [e0, ← nI_2, nI_add, ai_45 (by omega), b.2.2.1]; rfl
  · rw [e0, ← nI_3, nI_add, ai_45 (by omega), b.2.2.2.1]
theorem m_triedL (N : Nat) (hN : 1820 ≤ N) {t : TLD} {r : RSV} {s : Nat} (hs : s < 4) (hT : MTab t 0 M.2.2) (hW : WTld t) (wr : WRs r) (hr : MRs M s r) (h39 : M.1 39 = 0) (h40 : M.1 40 = 0) : ∀ (d m c i : Nat) (f : Nat → Int32), (t_bk t).length = i + d → d < m → ∃ f', l_X11_tried_29 N m (hp X C (mT M f) T) (some 35) (nI s) (nI c) (nI i) = some (nI (c + cntP (akL t r) (t_bk t) i), hp X C (mT M f') T) := by
  have hl := hW.2.2.1
  have a10 : ∀ f, aI (hp X C (mT M f) T) (some 44) 0 0 = some (nI (t_bk t).length) := fun f => by rw [az_44_0, mT_n (by decide), hT.2.2.1]
  intro d
  induction d with
  | zero =>
    intro m c i f h1 h2
    obtain ⟨m, rfl⟩ : ∃ k, m = k + 1 := ⟨m - 1, by omega⟩
    refine ⟨f, ?_⟩
    rw [cntP_e (by omega), Nat.add_zero]
    exact mt_end N m gr_35_10 (a10 f) (nI_le (by omega) (by omega))
  | succ d ih =>
    intro m c i f h1 h2
    obtain ⟨m, rfl⟩ : ∃ k, m = k + 1 := ⟨m - 1, by omega⟩
    obtain ⟨x, hx⟩ := at_ex (t_bk t) (show i < _ by omega)
    have hT' : MTab t 0 (mT M f).2.2 := hT.agr hW (fun a i hi => by
      by_cases e : a = 38
      · subst e; exact absurd hi (Nat.not_lt_zero _)
      · rw [mT_n e])
    obtain ⟨f1, e1⟩ := m_askLet (X := X) (C := C) (T := T) (M := mT M f) N hN hs hT' hW wr hr.mT h39 h40 hx
    rw [mT_mT] at e1
    have st := mt_st (v2 := nI c) N m (gr_35_10 (X := X) (C := C) (M := mT M f) (T := T)) (a10 f) (nI_ge (show i < _ by omega) (by omega)) (akL t r x) e1
    obtain ⟨f', g1⟩ := ih m (c + cond (akL t r x) 1 0) (i + 1) f1 (by omega) (by omega)
    refine ⟨f', ?_⟩
    rw [st, cntP_s hx, ← Nat.add_assoc, nI_1]
    have : nI c + b01 (akL t r x) = nI (c + cond (akL t r x) 1 0) := by
      cases akL t r x
      · exact Int32.add_zero _
      · exact nI_1 c
    rw [this]
    exact g1
end TRD
