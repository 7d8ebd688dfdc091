/-! idle, more, unlike -/
section IA
variable {A A1 A2 A3 A4 : LH} {q qo qt p p' : Option Nat} {i n x v w u y v1 v2 v3 v4 c : Int32}
theorem id_end (N m : Nat) (h1 : c ≤ i) : l_X10_idle_32 N (m + 1) A q w p c i = some (1, A) := by
  show b_X10_idle_32 N _ A q w p c i = _
  unfold b_X10_idle_32
  (repeat (first | with_reducible rfl | refine (bnd_eq (by first | with_reducible assumption)).trans ?_ | refine (if_pos (by first | with_reducible assumption | with_reducible rfl | decide | (dsimp only; first | with_reducible assumption | with_reducible rfl | decide))).trans ?_ | refine (if_neg (by first | with_reducible assumption | decide | (dsimp only; first | with_reducible assumption | decide))).trans ?_))
theorem id_go (N m : Nat) (h1 : ¬ c ≤ i) (h2 : gR A q 10 4 = some qt) (h3 : gR A q 10 2 = some qo) (h4 : f_X9_standAtCase A qt qo i = some A1) (h5 : gR A1 q 10 4 = some qt) (h6 : f_X9_hoursDecided N A1 qt p w = some (v, A2)) (h7 : v = 0) : l_X10_idle_32 N (m + 1) A q w p c i = l_X10_idle_32 N m A2 q w p c (i + 1) := by
  show b_X10_idle_32 N _ A q w p c i = _
  unfold b_X10_idle_32
  (repeat (first | with_reducible rfl | refine (bnd_eq (by first | with_reducible assumption)).trans ?_ | refine (if_pos (by first | with_reducible assumption | with_reducible rfl | decide | (dsimp only; first | with_reducible assumption | with_reducible rfl | decide))).trans ?_ | refine (if_neg (by first | with_reducible assumption | decide | (dsimp only; first | with_reducible assumption | decide))).trans ?_))
theorem id_no (N m : Nat) (h1 : ¬ c ≤ i) (h2 : gR A q 10 4 = some qt) (h3 : gR A q 10 2 = some qo) (h4 : f_X9_standAtCase A qt qo i = some A1) (h5 : gR A1 q 10 4 = some qt) (h6 : f_X9_hoursDecided N A1 qt p w = some (v, A2)) (h7 : ¬ v = 0) : l_X10_idle_32 N (m + 1) A q w p c i = some (0, A2) := by
  show b_X10_idle_32 N _ A q w p c i = _
  unfold b_X10_idle_32
  (repeat (first | with_reducible rfl | refine (bnd_eq (by first | with_reducible assumption)).trans ?_ | refine (if_pos (by first | with_reducible assumption | with_reducible rfl | decide | (dsimp only; first | with_reducible assumption | with_reducible rfl | decide))).trans ?_ | refine (if_neg (by first | with_reducible assumption | decide | (dsimp only; first | with_reducible assumption | decide))).trans ?_))
theorem im_end (N m : Nat) (h0 : f_X11_all A q = some c) (h1 : c ≤ v3) : l_X11_idle_28 N (m + 1) A q v1 v2 v3 = some (1, A) := by
  show b_X11_idle_28 N _ A q v1 v2 v3 = _
  unfold b_X11_idle_28
  (repeat (first | with_reducible rfl | refine (bnd_eq (by first | with_reducible assumption)).trans ?_ | refine (if_pos (by first | with_reducible assumption | with_reducible rfl | decide | (dsimp only; first | with_reducible assumption | with_reducible rfl | decide))).trans ?_ | refine (if_neg (by first | with_reducible assumption | decide | (dsimp only; first | with_reducible assumption | decide))).trans ?_))
theorem im_hit (N m : Nat) {x0 x1 x2 x3 : Int32} (h0 : f_X11_all A q = some c) (h1 : ¬ c ≤ v3) (g0 : f_X11_partOf A q v3 0 = some x0) (g1 : f_X11_partOf A q v3 1 = some x1) (g2 : f_X11_partOf A q v3 2 = some x2) (g3 : f_X11_partOf A q v3 3 = some x3) (h2 : f_X11_decider N A q v1 x0 x1 x2 x3 = some (x, A1)) (h3 : x = v2) : l_X11_idle_28 N (m + 1) A q v1 v2 v3 = some (0, A1) := by
  show b_X11_idle_28 N _ A q v1 v2 v3 = _
  unfold b_X11_idle_28
  (repeat (first | with_reducible rfl | refine (bnd_eq (by first | with_reducible assumption)).trans ?_ | refine (if_pos (by first | with_reducible assumption | with_reducible rfl | decide | (dsimp only; first | with_reducible assumption | with_reducible rfl | decide))).trans ?_ | refine (if_neg (by first | with_reducible assumption | decide | (dsimp only; first | with_reducible assumption | decide))).trans ?_))
theorem im_go (N m : Nat) {x0 x1 x2 x3 : Int32} (h0 : f_X11_all A q = some c) (h1 : ¬ c ≤ v3) (g0 : f_X11_partOf A q v3 0 = some x0) (g1 : f_X11_partOf A q v3 1 = some x1) (g2 : f_X11_partOf A q v3 2 = some x2) (g3 : f_X11_partOf A q v3 3 = some x3) (h2 : f_X11_decider N A q v1 x0 x1 x2 x3 = some (x, A1)) (h3 : ¬ x = v2) : l_X11_idle_28 N (m + 1) A q v1 v2 v3 = l_X11_idle_28 N m A1 q v1 v2 (v3 + 1) := by
  show b_X11_idle_28 N _ A q v1 v2 v3 = _
  unfold b_X11_idle_28
  (repeat (first | with_reducible rfl | refine (bnd_eq (by first | with_reducible assumption)).trans ?_ | refine (if_pos (by first | with_reducible assumption | with_reducible rfl | decide | (dsimp only; first | with_reducible assumption | with_reducible rfl | decide))).trans ?_ | refine (if_neg (by first | with_reducible assumption | decide | (dsimp only; first | with_reducible assumption | decide))).trans ?_))
theorem mo_end (N m : Nat) (h1 : c ≤ i) : l_X10_more_39 N (m + 1) A q p p' v c i = some (v, A) := by
  show b_X10_more_39 N _ A q p p' v c i = _
  unfold b_X10_more_39
  (repeat (first | with_reducible rfl | refine (bnd_eq (by first | with_reducible assumption)).trans ?_ | refine (if_pos (by first | with_reducible assumption | with_reducible rfl | decide | (dsimp only; first | with_reducible assumption | with_reducible rfl | decide))).trans ?_ | refine (if_neg (by first | with_reducible assumption | decide | (dsimp only; first | with_reducible assumption | decide))).trans ?_))
theorem mo_go (N m : Nat) (h1 : ¬ c ≤ i) (h2 : gR A q 10 4 = some qt) (h3 : gR A q 10 2 = some qo) (h4 : f_X9_standAtCase A qt qo i = some A1) (h5 : gR A1 q 10 4 = some qt) (h6 : f_X9_hoursLet N A1 qt p = some (x, A2)) (h7 : gR A2 q 10 4 = some qt) (h8 : f_X9_hoursLet N A2 qt p' = some (y, A3)) (h9 : f_J6_bitCount_0f7a4 (x &&& (y ^^^ (-1))) = some u) : l_X10_more_39 N (m + 1) A q p p' v c i = l_X10_more_39 N m A3 q p p' (v + u) c (i + 1) := by
  show b_X10_more_39 N _ A q p p' v c i = _
  unfold b_X10_more_39
  (repeat (first | with_reducible rfl | refine (bnd_eq (by first | with_reducible assumption)).trans ?_ | refine (if_pos (by first | with_reducible assumption | with_reducible rfl | decide | (dsimp only; first | with_reducible assumption | with_reducible rfl | decide))).trans ?_ | refine (if_neg (by first | with_reducible assumption | decide | (dsimp only; first | with_reducible assumption | decide))).trans ?_))
theorem mm_end (N m : Nat) (h0 : f_X11_all A q = some c) (h1 : c ≤ v4) : l_X11_more_38 N (m + 1) A q v1 v2 v3 v4 = some (v3, A) := by
  show b_X11_more_38 N _ A q v1 v2 v3 v4 = _
  unfold b_X11_more_38
  (repeat (first | with_reducible rfl | refine (bnd_eq (by first | with_reducible assumption)).trans ?_ | refine (if_pos (by first | with_reducible assumption | with_reducible rfl | decide | (dsimp only; first | with_reducible assumption | with_reducible rfl | decide))).trans ?_ | refine (if_neg (by first | with_reducible assumption | decide | (dsimp only; first | with_reducible assumption | decide))).trans ?_))
theorem mm_0 (N m : Nat) (h0 : f_X11_all A q = some c) (h1 : ¬ c ≤ v4) (h2 : f_X11_isAllLet N A q v1 v4 = some (0, A1)) : l_X11_more_38 N (m + 1) A q v1 v2 v3 v4 = l_X11_more_38 N m A1 q v1 v2 (v3 + 0) (v4 + 1) := by
  show b_X11_more_38 N _ A q v1 v2 v3 v4 = _
  unfold b_X11_more_38
  (repeat (first | with_reducible rfl | refine (bnd_eq (by first | with_reducible assumption)).trans ?_ | refine (if_pos (by first | with_reducible assumption | with_reducible rfl | decide | (dsimp only; first | with_reducible assumption | with_reducible rfl | decide))).trans ?_ | refine (if_neg (by first | with_reducible assumption | decide | (dsimp only; first | with_reducible assumption | decide))).trans ?_))
theorem mm_1 (N m : Nat) (h0 : f_X11_all A q = some c) (h1 : ¬ c ≤ v4) (h2 : f_X11_isAllLet N A q v1 v4 = some (1, A1)) (b : Bool) (h3 : f_X11_isAllLet N A1 q v2 v4 = some (b01 b, A2)) : l_X11_more_38 N (m + 1) A q v1 v2 v3 v4 = l_X11_more_38 N m A2 q v1 v2 (v3 + b01 (!b)) (v4 + 1) := by
  show b_X11_more_38 N _ A q v1 v2 v3 v4 = _
  unfold b_X11_more_38
  cases b with
  | true =>
    show _ = l_X11_more_38 N m A2 q v1 v2 (v3 + 0) (v4 + 1)
    (repeat (first | with_reducible rfl | refine (bnd_eq (by first | with_reducible assumption)).trans ?_ | refine (if_pos (by first | with_reducible assumption | with_reducible rfl | decide | (dsimp only; first | with_reducible assumption | with_reducible rfl | decide))).trans ?_ | refine (if_neg (by first | with_reducible assumption | decide | (dsimp only; first | with_reducible assumption | decide))).trans ?_))
  | false =>
    show _ = l_X11_more_38 N m A2 q v1 v2 (v3 + 1) (v4 + 1)
    (repeat (first | with_reducible rfl | refine (bnd_eq (by first | with_reducible assumption)).trans ?_ | refine (if_pos (by first | with_reducible assumption | with_reducible rfl | decide | (dsimp only; first | with_reducible assumption | with_reducible rfl | decide))).trans ?_ | refine (if_neg (by first | with_reducible assumption | decide | (dsimp only; first | with_reducible assumption | decide))).trans ?_))
theorem un_end (N m : Nat) (h1 : c ≤ i) : l_X10_unlike_38 N (m + 1) A q w p p' c i = some (-1, A) := by
  show b_X10_unlike_38 N _ A q w p p' c i = _
  unfold b_X10_unlike_38
  (repeat (first | with_reducible rfl | refine (bnd_eq (by first | with_reducible assumption)).trans ?_ | refine (if_pos (by first | with_reducible assumption | with_reducible rfl | decide | (dsimp only; first | with_reducible assumption | with_reducible rfl | decide))).trans ?_ | refine (if_neg (by first | with_reducible assumption | decide | (dsimp only; first | with_reducible assumption | decide))).trans ?_))
theorem un_go (N m : Nat) (h1 : ¬ c ≤ i) (h2 : gR A q 10 4 = some qt) (h3 : gR A q 10 2 = some qo) (h4 : f_X9_standAtCase A qt qo i = some A1) (h5 : gR A1 q 10 4 = some qt) (h6 : f_X9_hoursLet N A1 qt p = some (x, A2)) (h7 : gR A2 q 10 4 = some qt) (h8 : f_X9_hoursLet N A2 qt p' = some (y, A3)) (h9 : x ^^^ y = 0) : l_X10_unlike_38 N (m + 1) A q w p p' c i = l_X10_unlike_38 N m A3 q w p p' c (i + 1) := by
  show b_X10_unlike_38 N _ A q w p p' c i = _
  unfold b_X10_unlike_38
  (repeat (first | with_reducible rfl | refine (bnd_eq (by first | with_reducible assumption)).trans ?_ | refine (if_pos (by first | with_reducible assumption | with_reducible rfl | decide | (dsimp only; first | with_reducible assumption | with_reducible rfl | decide))).trans ?_ | refine (if_neg (by first | with_reducible assumption | decide | (dsimp only; first | with_reducible assumption | decide))).trans ?_))
theorem un_hit (N m : Nat) (h1 : ¬ c ≤ i) (h2 : gR A q 10 4 = some qt) (h3 : gR A q 10 2 = some qo) (h4 : f_X9_standAtCase A qt qo i = some A1) (h5 : gR A1 q 10 4 = some qt) (h6 : f_X9_hoursLet N A1 qt p = some (x, A2)) (h7 : gR A2 q 10 4 = some qt) (h8 : f_X9_hoursLet N A2 qt p' = some (y, A3)) (h9 : ¬ x ^^^ y = 0) (h10 : gR A3 q 10 4 = some qt) (h11 : f_J6_numberOfTrailingZeros_0f7a4 (x ^^^ y) = some u) (h12 : f_X9_toldAt A3 qt u w = some v) : l_X10_unlike_38 N (m + 1) A q w p p' c i = some (v, A3) := by
  show b_X10_unlike_38 N _ A q w p p' c i = _
  unfold b_X10_unlike_38
  (repeat (first | with_reducible rfl | refine (bnd_eq (by first | with_reducible assumption)).trans ?_ | refine (if_pos (by first | with_reducible assumption | with_reducible rfl | decide | (dsimp only; first | with_reducible assumption | with_reducible rfl | decide))).trans ?_ | refine (if_neg (by first | with_reducible assumption | decide | (dsimp only; first | with_reducible assumption | decide))).trans ?_))
theorem um_end (N m : Nat) (h0 : f_X11_all A q = some c) (h1 : c ≤ v4) : l_X11_unlike_45 N (m + 1) A q v1 v2 v3 v4 = some (-1, A) := by
  show b_X11_unlike_45 N _ A q v1 v2 v3 v4 = _
  unfold b_X11_unlike_45
  (repeat (first | with_reducible rfl | refine (bnd_eq (by first | with_reducible assumption)).trans ?_ | refine (if_pos (by first | with_reducible assumption | with_reducible rfl | decide | (dsimp only; first | with_reducible assumption | with_reducible rfl | decide))).trans ?_ | refine (if_neg (by first | with_reducible assumption | decide | (dsimp only; first | with_reducible assumption | decide))).trans ?_))
theorem um_go (N m : Nat) (h0 : f_X11_all A q = some c) (h1 : ¬ c ≤ v4) (h2 : f_X11_isAllLet N A q v1 v4 = some (x, A1)) (h3 : f_X11_isAllLet N A1 q v2 v4 = some (y, A2)) (h4 : x = y) : l_X11_unlike_45 N (m + 1) A q v1 v2 v3 v4 = l_X11_unlike_45 N m A2 q v1 v2 v3 (v4 + 1) := by
  show b_X11_unlike_45 N _ A q v1 v2 v3 v4 = _
  unfold b_X11_unlike_45
  (repeat (first | with_reducible rfl | refine (bnd_eq (by first | with_reducible assumption)).trans ?_ | refine (if_pos (by first | with_reducible assumption | with_reducible rfl | decide | (dsimp only; first | with_reducible assumption | with_reducible rfl | decide))).trans ?_ | refine (if_neg (by first | with_reducible assumption | decide | (dsimp only; first | with_reducible assumption | decide))).trans ?_))
theorem um_hit (N m : Nat) (h0 : f_X11_all A q = some c) (h1 : ¬ c ≤ v4) (h2 : f_X11_isAllLet N A q v1 v4 = some (x, A1)) (h3 : f_X11_isAllLet N A1 q v2 v4 = some (y, A2)) (h4 : ¬ x = y) (h5 : f_X11_partOf A2 q v4 v3 = some u) : l_X11_unlike_45 N (m + 1) A q v1 v2 v3 v4 = some (u, A2) := by
  show b_X11_unlike_45 N _ A q v1 v2 v3 v4 = _
  unfold b_X11_unlike_45
  (repeat (first | with_reducible rfl | refine (bnd_eq (by first | with_reducible assumption)).trans ?_ | refine (if_pos (by first | with_reducible assumption | with_reducible rfl | decide | (dsimp only; first | with_reducible assumption | with_reducible rfl | decide))).trans ?_ | refine (if_neg (by first | with_reducible assumption | decide | (dsimp only; first | with_reducible assumption | decide))).trans ?_))
theorem iq_no {N : Nat} (h0 : isO A q 10 = true) (h1 : f_X10_rulesIn A q v1 = some none) : f_X10_idle N A q v1 v2 = some (0, A) := by
  unfold f_X10_idle
  rw [if_pos h0, show b_X10_idle N A q v1 v2 = some (0, A) by unfold b_X10_idle; (repeat (first | with_reducible rfl | refine (bnd_eq (by first | with_reducible assumption)).trans ?_ | refine (if_pos (by first | with_reducible assumption | with_reducible rfl | decide | (dsimp only; first | with_reducible assumption | with_reducible rfl | decide))).trans ?_ | refine (if_neg (by first | with_reducible assumption | decide | (dsimp only; first | with_reducible assumption | decide))).trans ?_))]; rfl
theorem iq_nl {N : Nat} (h0 : isO A q 10 = true) (h1 : f_X10_rulesIn A q v1 = some p) (hp : ¬ p = none) (h2 : f_X3_lineAt A p v2 = some none) : f_X10_idle N A q v1 v2 = some (0, A) := by
  unfold f_X10_idle
  rw [if_pos h0, show b_X10_idle N A q v1 v2 = some (0, A) by unfold b_X10_idle; (repeat (first | with_reducible rfl | refine (bnd_eq (by first | with_reducible assumption)).trans ?_ | refine (if_pos (by first | with_reducible assumption | with_reducible rfl | decide | (dsimp only; first | with_reducible assumption | with_reducible rfl | decide))).trans ?_ | refine (if_neg (by first | with_reducible assumption | decide | (dsimp only; first | with_reducible assumption | decide))).trans ?_))]; rfl
theorem iq_go {N : Nat} (h0 : isO A q 10 = true) (h1 : f_X10_rulesIn A q v1 = some p) (hp : ¬ p = none) (h2 : f_X3_lineAt A p v2 = some p') (hp' : ¬ p' = none) (h3 : gR A q 10 2 = some qo) (h4 : f_X8_cases A qo = some c) (b : Bool) (h5 : l_X10_idle_32 N N A q v2 p c 0 = some (b01 b, A1)) : f_X10_idle N A q v1 v2 = some (b01 b, A1) := by
  unfold f_X10_idle
  rw [if_pos h0, show b_X10_idle N A q v1 v2 = some (b01 b, A1) by
    unfold b_X10_idle
    (repeat (first | with_reducible rfl | refine (bnd_eq (by first | with_reducible assumption)).trans ?_ | refine (if_pos (by first | with_reducible assumption | with_reducible rfl | decide | (dsimp only; first | with_reducible assumption | with_reducible rfl | decide))).trans ?_ | refine (if_neg (by first | with_reducible assumption | decide | (dsimp only; first | with_reducible assumption | decide))).trans ?_))
    exact h5]
  exact zc_b b A1
theorem iM_no {N : Nat} (h0 : isO A q 11 = true) (h1 : pF A q 11 0 (LI 0) = some A1) (h2 : f_X11_isLine A1 q v1 v2 = some 0) : f_X11_idle N A q v1 v2 = some (0, A1) := by
  unfold f_X11_idle
  rw [if_pos h0, show b_X11_idle N A q v1 v2 = some (0, A1) by unfold b_X11_idle; (repeat (first | with_reducible rfl | refine (bnd_eq (by first | with_reducible assumption)).trans ?_ | refine (if_pos (by first | with_reducible assumption | with_reducible rfl | decide | (dsimp only; first | with_reducible assumption | with_reducible rfl | decide))).trans ?_ | refine (if_neg (by first | with_reducible assumption | decide | (dsimp only; first | with_reducible assumption | decide))).trans ?_))]; rfl
theorem iM_go {N : Nat} (h0 : isO A q 11 = true) (h1 : pF A q 11 0 (LI 0) = some A1) (h2 : f_X11_isLine A1 q v1 v2 = some 1) (h4 : pF A1 q 11 39 (LI 0) = some A2) (h5 : pF A2 q 11 40 (LI 0) = some A3) (b : Bool) (h6 : l_X11_idle_28 N N A3 q v1 v2 0 = some (b01 b, A4)) : f_X11_idle N A q v1 v2 = some (b01 b, A4) := by
  unfold f_X11_idle
  rw [if_pos h0, show b_X11_idle N A q v1 v2 = some (b01 b, A4) by
    unfold b_X11_idle
    (repeat (first | with_reducible rfl | refine (bnd_eq (by first | with_reducible assumption)).trans ?_ | refine (if_pos (by first | with_reducible assumption | with_reducible rfl | decide | (dsimp only; first | with_reducible assumption | with_reducible rfl | decide))).trans ?_ | refine (if_neg (by first | with_reducible assumption | decide | (dsimp only; first | with_reducible assumption | decide))).trans ?_))
    exact h6]
  exact zc_b b A4
theorem mq_no1 {N : Nat} (h0 : isO A q 10 = true) (h1 : f_X10_rulesIn A q v1 = some none) (h2 : f_X10_rulesIn A q v2 = some p') : f_X10_more N A q v1 v2 = some (-1, A) := by
  unfold f_X10_more b_X10_more
  (repeat (first | with_reducible rfl | refine (bnd_eq (by first | with_reducible assumption)).trans ?_ | refine (if_pos (by first | with_reducible assumption | with_reducible rfl | decide | (dsimp only; first | with_reducible assumption | with_reducible rfl | decide))).trans ?_ | refine (if_neg (by first | with_reducible assumption | decide | (dsimp only; first | with_reducible assumption | decide))).trans ?_))
theorem mq_no2 {N : Nat} (h0 : isO A q 10 = true) (h1 : f_X10_rulesIn A q v1 = some p) (hp : ¬ p = none) (h2 : f_X10_rulesIn A q v2 = some none) : f_X10_more N A q v1 v2 = some (-1, A) := by
  unfold f_X10_more b_X10_more
  (repeat (first | with_reducible rfl | refine (bnd_eq (by first | with_reducible assumption)).trans ?_ | refine (if_pos (by first | with_reducible assumption | with_reducible rfl | decide | (dsimp only; first | with_reducible assumption | with_reducible rfl | decide))).trans ?_ | refine (if_neg (by first | with_reducible assumption | decide | (dsimp only; first | with_reducible assumption | decide))).trans ?_))
theorem mq_go {N : Nat} (h0 : isO A q 10 = true) (h1 : f_X10_rulesIn A q v1 = some p) (hp : ¬ p = none) (h2 : f_X10_rulesIn A q v2 = some p') (hp' : ¬ p' = none) (h3 : gR A q 10 2 = some qo) (h4 : f_X8_cases A qo = some c) (h5 : l_X10_more_39 N N A q p p' 0 c 0 = some (x, A1)) : f_X10_more N A q v1 v2 = some (x, A1) := by
  unfold f_X10_more b_X10_more
  (repeat (first | with_reducible rfl | refine (bnd_eq (by first | with_reducible assumption)).trans ?_ | refine (if_pos (by first | with_reducible assumption | with_reducible rfl | decide | (dsimp only; first | with_reducible assumption | with_reducible rfl | decide))).trans ?_ | refine (if_neg (by first | with_reducible assumption | decide | (dsimp only; first | with_reducible assumption | decide))).trans ?_))
  exact h5
theorem mM_no1 {N : Nat} (h0 : isO A q 11 = true) (h1 : pF A q 11 0 (LI 0) = some A1) (h2 : f_X11_isSlot A1 q v1 = some 0) : f_X11_more N A q v1 v2 = some (-1, A1) := by
  unfold f_X11_more b_X11_more
  (repeat (first | with_reducible rfl | refine (bnd_eq (by first | with_reducible assumption)).trans ?_ | refine (if_pos (by first | with_reducible assumption | with_reducible rfl | decide | (dsimp only; first | with_reducible assumption | with_reducible rfl | decide))).trans ?_ | refine (if_neg (by first | with_reducible assumption | decide | (dsimp only; first | with_reducible assumption | decide))).trans ?_))
theorem mM_no2 {N : Nat} (h0 : isO A q 11 = true) (h1 : pF A q 11 0 (LI 0) = some A1) (h2 : f_X11_isSlot A1 q v1 = some 1) (h3 : f_X11_isSlot A1 q v2 = some 0) : f_X11_more N A q v1 v2 = some (-1, A1) := by
  unfold f_X11_more b_X11_more
  (repeat (first | with_reducible rfl | refine (bnd_eq (by first | with_reducible assumption)).trans ?_ | refine (if_pos (by first | with_reducible assumption | with_reducible rfl | decide | (dsimp only; first | with_reducible assumption | with_reducible rfl | decide))).trans ?_ | refine (if_neg (by first | with_reducible assumption | decide | (dsimp only; first | with_reducible assumption | decide))).trans ?_))
theorem mM_go {N : Nat} (h0 : isO A q 11 = true) (h1 : pF A q 11 0 (LI 0) = some A1) (h2 : f_X11_isSlot A1 q v1 = some 1) (h3 : f_X11_isSlot A1 q v2 = some 1) (h4 : pF A1 q 11 39 (LI 0) = some A2) (h5 : pF A2 q 11 40 (LI 0) = some A3) (h6 : l_X11_more_38 N N A3 q v1 v2 0 0 = some (x, A4)) : f_X11_more N A q v1 v2 = some (x, A4) := by
  unfold f_X11_more b_X11_more
  (repeat (first | with_reducible rfl | refine (bnd_eq (by first | with_reducible assumption)).trans ?_ | refine (if_pos (by first | with_reducible assumption | with_reducible rfl | decide | (dsimp only; first | with_reducible assumption | with_reducible rfl | decide))).trans ?_ | refine (if_neg (by first | with_reducible assumption | decide | (dsimp only; first | with_reducible assumption | decide))).trans ?_))
  exact h6
theorem uq_no1 {N : Nat} (h0 : isO A q 10 = true) (h1 : f_X10_rulesIn A q v1 = some none) (h2 : f_X10_rulesIn A q v2 = some p') : f_X10_unlike N A q v1 v2 v3 = some (-1, A) := by
  unfold f_X10_unlike b_X10_unlike
  (repeat (first | with_reducible rfl | refine (bnd_eq (by first | with_reducible assumption)).trans ?_ | refine (if_pos (by first | with_reducible assumption | with_reducible rfl | decide | (dsimp only; first | with_reducible assumption | with_reducible rfl | decide))).trans ?_ | refine (if_neg (by first | with_reducible assumption | decide | (dsimp only; first | with_reducible assumption | decide))).trans ?_))
theorem uq_no2 {N : Nat} (h0 : isO A q 10 = true) (h1 : f_X10_rulesIn A q v1 = some p) (hp : ¬ p = none) (h2 : f_X10_rulesIn A q v2 = some none) : f_X10_unlike N A q v1 v2 v3 = some (-1, A) := by
  unfold f_X10_unlike b_X10_unlike
  (repeat (first | with_reducible rfl | refine (bnd_eq (by first | with_reducible assumption)).trans ?_ | refine (if_pos (by first | with_reducible assumption | with_reducible rfl | decide | (dsimp only; first | with_reducible assumption | with_reducible rfl | decide))).trans ?_ | refine (if_neg (by first | with_reducible assumption | decide | (dsimp only; first | with_reducible assumption | decide))).trans ?_))
theorem uq_go {N : Nat} (h0 : isO A q 10 = true) (h1 : f_X10_rulesIn A q v1 = some p) (hp : ¬ p = none) (h2 : f_X10_rulesIn A q v2 = some p') (hp' : ¬ p' = none) (h3 : gR A q 10 2 = some qo) (h4 : f_X8_cases A qo = some c) (h5 : l_X10_unlike_38 N N A q v3 p p' c 0 = some (x, A1)) : f_X10_unlike N A q v1 v2 v3 = some (x, A1) := by
  unfold f_X10_unlike b_X10_unlike
  (repeat (first | with_reducible rfl | refine (bnd_eq (by first | with_reducible assumption)).trans ?_ | refine (if_pos (by first | with_reducible assumption | with_reducible rfl | decide | (dsimp only; first | with_reducible assumption | with_reducible rfl | decide))).trans ?_ | refine (if_neg (by first | with_reducible assumption | decide | (dsimp only; first | with_reducible assumption | decide))).trans ?_))
  exact h5
theorem uM_no1 {N : Nat} (h0 : isO A q 11 = true) (h1 : pF A q 11 0 (LI 0) = some A1) (h2 : f_X11_isSlot A1 q v1 = some 0) : f_X11_unlike N A q v1 v2 v3 = some (-1, A1) := by
  unfold f_X11_unlike b_X11_unlike
  (repeat (first | with_reducible rfl | refine (bnd_eq (by first | with_reducible assumption)).trans ?_ | refine (if_pos (by first | with_reducible assumption | with_reducible rfl | decide | (dsimp only; first | with_reducible assumption | with_reducible rfl | decide))).trans ?_ | refine (if_neg (by first | with_reducible assumption | decide | (dsimp only; first | with_reducible assumption | decide))).trans ?_))
theorem uM_no2 {N : Nat} (h0 : isO A q 11 = true) (h1 : pF A q 11 0 (LI 0) = some A1) (h2 : f_X11_isSlot A1 q v1 = some 1) (h3 : f_X11_isSlot A1 q v2 = some 0) : f_X11_unlike N A q v1 v2 v3 = some (-1, A1) := by
  unfold f_X11_unlike b_X11_unlike
  (repeat (first | with_reducible rfl | refine (bnd_eq (by first | with_reducible assumption)).trans ?_ | refine (if_pos (by first | with_reducible assumption | with_reducible rfl | decide | (dsimp only; first | with_reducible assumption | with_reducible rfl | decide))).trans ?_ | refine (if_neg (by first | with_reducible assumption | decide | (dsimp only; first | with_reducible assumption | decide))).trans ?_))
theorem uM_no3 {N : Nat} (h0 : isO A q 11 = true) (h1 : pF A q 11 0 (LI 0) = some A1) (h2 : f_X11_isSlot A1 q v1 = some 1) (h3 : f_X11_isSlot A1 q v2 = some 1) (h4 : f_X11_in v3 0 3 = some 0) : f_X11_unlike N A q v1 v2 v3 = some (-1, A1) := by
  unfold f_X11_unlike b_X11_unlike
  (repeat (first | with_reducible rfl | refine (bnd_eq (by first | with_reducible assumption)).trans ?_ | refine (if_pos (by first | with_reducible assumption | with_reducible rfl | decide | (dsimp only; first | with_reducible assumption | with_reducible rfl | decide))).trans ?_ | refine (if_neg (by first | with_reducible assumption | decide | (dsimp only; first | with_reducible assumption | decide))).trans ?_))
theorem uM_go {N : Nat} (h0 : isO A q 11 = true) (h1 : pF A q 11 0 (LI 0) = some A1) (h2 : f_X11_isSlot A1 q v1 = some 1) (h3 : f_X11_isSlot A1 q v2 = some 1) (h7 : f_X11_in v3 0 3 = some 1) (h4 : pF A1 q 11 39 (LI 0) = some A2) (h5 : pF A2 q 11 40 (LI 0) = some A3) (h6 : l_X11_unlike_45 N N A3 q v1 v2 v3 0 = some (x, A4)) : f_X11_unlike N A q v1 v2 v3 = some (x, A4) := by
  unfold f_X11_unlike b_X11_unlike
  (repeat (first | with_reducible rfl | refine (bnd_eq (by first | with_reducible assumption)).trans ?_ | refine (if_pos (by first | with_reducible assumption | with_reducible rfl | decide | (dsimp only; first | with_reducible assumption | with_reducible rfl | decide))).trans ?_ | refine (if_neg (by first | with_reducible assumption | decide | (dsimp only; first | with_reducible assumption | decide))).trans ?_))
  exact h6
theorem ta_0 (h0 : isO A q 9 = true) (h1 : gI A q 9 2 = some x) : f_X9_toldAt A q u 0 = some x := by
  unfold f_X9_toldAt b_X9_toldAt
  (repeat (first | with_reducible rfl | refine (bnd_eq (by first | with_reducible assumption)).trans ?_ | refine (if_pos (by first | with_reducible assumption | with_reducible rfl | decide | (dsimp only; first | with_reducible assumption | with_reducible rfl | decide))).trans ?_ | refine (if_neg (by first | with_reducible assumption | decide | (dsimp only; first | with_reducible assumption | decide))).trans ?_))
theorem ta_1 (h0 : isO A q 9 = true) (h1 : gI A q 9 3 = some x) : f_X9_toldAt A q u 1 = some x := by
  unfold f_X9_toldAt b_X9_toldAt
  (repeat (first | with_reducible rfl | refine (bnd_eq (by first | with_reducible assumption)).trans ?_ | refine (if_pos (by first | with_reducible assumption | with_reducible rfl | decide | (dsimp only; first | with_reducible assumption | with_reducible rfl | decide))).trans ?_ | refine (if_neg (by first | with_reducible assumption | decide | (dsimp only; first | with_reducible assumption | decide))).trans ?_))
theorem ta_2 (h0 : isO A q 9 = true) (h1 : gI A q 9 4 = some x) : f_X9_toldAt A q u 2 = some x := by
  unfold f_X9_toldAt b_X9_toldAt
  (repeat (first | with_reducible rfl | refine (bnd_eq (by first | with_reducible assumption)).trans ?_ | refine (if_pos (by first | with_reducible assumption | with_reducible rfl | decide | (dsimp only; first | with_reducible assumption | with_reducible rfl | decide))).trans ?_ | refine (if_neg (by first | with_reducible assumption | decide | (dsimp only; first | with_reducible assumption | decide))).trans ?_))
theorem ta_3 (h0 : isO A q 9 = true) : f_X9_toldAt A q u 3 = some u := by
  unfold f_X9_toldAt b_X9_toldAt
  (repeat (first | with_reducible rfl | refine (bnd_eq (by first | with_reducible assumption)).trans ?_ | refine (if_pos (by first | with_reducible assumption | with_reducible rfl | decide | (dsimp only; first | with_reducible assumption | with_reducible rfl | decide))).trans ?_ | refine (if_neg (by first | with_reducible assumption | decide | (dsimp only; first | with_reducible assumption | decide))).trans ?_))
theorem ta_n (h0 : isO A q 9 = true) (h1 : ¬ w = 0) (h2 : ¬ w = 1) (h3 : ¬ w = 2) (h4 : ¬ w = 3) : f_X9_toldAt A q u w = some (-1) := by
  unfold f_X9_toldAt b_X9_toldAt
  (repeat (first | with_reducible rfl | refine (bnd_eq (by first | with_reducible assumption)).trans ?_ | refine (if_pos (by first | with_reducible assumption | with_reducible rfl | decide | (dsimp only; first | with_reducible assumption | with_reducible rfl | decide))).trans ?_ | refine (if_neg (by first | with_reducible assumption | decide | (dsimp only; first | with_reducible assumption | decide))).trans ?_))
end IA
section IMU
variable {X : XS} {C : CS} {M : MS} {T : TS} {S : SG} {K : Nat} {mu : List Nat}
theorem bt_z {v : Int32} : v = 0 ↔ ∀ j, j < 32 → bt v j = false := ⟨fun h j _ => by rw [h, b_0], fun h => b_ext fun j hj => by rw [h j hj, b_0]⟩
theorem k_idleL (N : Nat) (hN : 601 ≤ N) {t : TLD} {r : RSV} {q k : Nat} (hR : RTab t (C.1 9) (C.1 10) (C.1 11) (C.2.1 2) (C.2.1 3) (C.2.1 4)) (hW : WTld t) (wr : WRs r) (hr : isRl mu T q r) (hk : k < 12) : ∀ (d m i : Nat) (C' : CS), EqT C C' → csN t = i + d → d < m → ∃ C'' b, l_X10_idle_32 N m (hp X C' M T) (some 8) (nI k) (some q) (nI (csN t)) (nI i) = some (b01 b, hp X C'' M T) ∧ EqT C C'' ∧ (b = true ↔ ∀ j, i ≤ j → j < csN t → ∀ h, h < 24 → ¬ decR (evC t j) h r = some k) := by
  have hc := csN_le hW
  intro d
  induction d with
  | zero =>
    intro m i C' hE h1 h2
    obtain ⟨m, rfl⟩ : ∃ k, m = k + 1 := ⟨m - 1, by omega⟩
    exact ⟨C', true, id_end N m (nI_le (by omega) (by omega)), hE, fun _ j h3 h4 => by omega, fun _ => rfl⟩
  | succ d ih =>
    intro m i C' hE h1 h2
    obtain ⟨m, rfl⟩ : ∃ k, m = k + 1 := ⟨m - 1, by omega⟩
    obtain ⟨C1, c1, c2, c3, c4⟩ := k_atCase (X := X) (M := M) (T := T) (hE.tab hR) hW (show i < csN t by omega)
    obtain ⟨f, v, u, u1, u2⟩ := k_hdec (X := X) (M := M) N hN hk c3 c4 wr hr
    have hlt : ¬ nI (csN t) ≤ nI i := nI_ge (by omega) (by omega)
    by_cases hu : u = 0
    · obtain ⟨C'', b, g1, g2, g3⟩ := ih m (i + 1) (kT C1 f v) (hE.tr c2).kT (by omega) (by omega)
      refine ⟨C'', b, ?_, g2, g3.trans ⟨fun z j h3 h4 h h5 => ?_, fun z j h3 h4 => z j (by omega) h4⟩⟩
      · rw [id_go N m hlt gr_8_4 gr_8_2 c1 gr_8_4 u1 hu, nI_1]
        exact g1
      · by_cases hj : j = i
        · subst hj
          have := u2 h (by omega)
          rw [bt_z.mp hu h (by omega), show decide (h < 24) = true by simp [h5], Bool.true_and] at this
          intro z; rw [z] at this; simp at this
        · exact z j (by omega) h4 h h5
    · refine ⟨kT C1 f v, false, id_no N m hlt gr_8_4 gr_8_2 c1 gr_8_4 u1 hu, (hE.tr c2).kT, fun z => (nomatch z), fun z => ?_⟩
      exfalso
      refine hu (bt_z.mpr fun j hj => ?_)
      rw [u2 j hj]
      by_cases h24 : j < 24
      · have := z i (Nat.le_refl _) (by omega) j h24
        simp [this]
      · simp [h24]
theorem m_idleL (N : Nat) (hN : 1820 ≤ N) {t : TLD} {r : RSV} {s k : Nat} (hs : s < 4) (hT : MTab t 0 M.2.2) (hW : WTld t) (wr : WRs r) (hr : MRs M s r) (h39 : M.1 39 = 0) (h40 : M.1 40 = 0) (hk : k < 12) : ∀ (d m n : Nat) (f : Nat → Int32), 24 * csN t = n + d → d < m → ∃ f' b, l_X11_idle_28 N m (hp X C (mT M f) T) (some 35) (nI s) (nI k) (nI n) = some (b01 b, hp X C (mT M f') T) ∧ (b = true ↔ ∀ j, n ≤ j → j < 24 * csN t → ¬ decR (evC t (j / 24)) (j % 24) r = some k) := by
  have hc := csN_le hW
  have hT' : ∀ f, MTab t 0 (mT M f).2.2 := fun f => hT.agr hW (fun a i hi => by
    by_cases e : a = 38
    · subst e; exact absurd hi (Nat.not_lt_zero _)
    · rw [mT_n e])
  intro d
  induction d with
  | zero =>
    intro m n f h1 h2
    obtain ⟨m, rfl⟩ : ∃ k, m = k + 1 := ⟨m - 1, by omega⟩
    exact ⟨f, true, im_end N m (m_allN (hT' f)) (nI_le (by omega) (by omega)), fun _ j h3 h4 => by omega, fun _ => rfl⟩
  | succ d ih =>
    intro m n f h1 h2
    obtain ⟨m, rfl⟩ : ∃ k, m = k + 1 := ⟨m - 1, by omega⟩
    have hn : n < 24 * csN t := by omega
    have hi : n / 24 < csN t := by omega
    obtain ⟨p0, p1, p2, p3⟩ := m_parts (X := X) (C := C) (T := T) (M := mT M f) (hT' f) hW hn
    obtain ⟨f1, e1⟩ := m_dec0 (X := X) (C := C) (T := T) (M := mT M f) (e := evC t (n / 24)) N hN hs (show n % 24 < 24 by omega) (MEv.ofC hW (hT' f) hi) (WEv.ofC hW hi) wr hr.mT h39 h40
    rw [mT_mT] at e1
    have hlt : ¬ nI (24 * csN t) ≤ nI n := nI_ge (by omega) (by omega)
    have hb : decR (evC t (n / 24)) (n % 24) r = some k ↔ oI (decR (evC t (n / 24)) (n % 24) r) = nI k := by
      cases hq : decR (evC t (n / 24)) (n % 24) r with
      | none =>
        refine ⟨fun z => (nomatch z), fun z => ?_⟩
        exact absurd z.symm (oI_ne (k := k) (by omega))
      | some j =>
        have hj := decP_lt hq
        have := wr.2.1
        rw [Option.some.injEq]
        exact (nI_eq (by omega) (by omega)).symm
    by_cases hd : decR (evC t (n / 24)) (n % 24) r = some k
    · refine ⟨f1, false, im_hit N m (m_allN (hT' f)) hlt p0 p1 p2 p3 e1 (hb.mp hd), fun z => (nomatch z), fun z => ?_⟩
      exact absurd hd (z n (Nat.le_refl _) hn)
    · obtain ⟨f', b, g1, g2⟩ := ih m (n + 1) f1 (by omega) (by omega)
      refine ⟨f', b, ?_, g2.trans ⟨fun z j h3 h4 => ?_, fun z j h3 h4 => z j (by omega) h4⟩⟩
      · rw [im_go N m (m_allN (hT' f)) hlt p0 p1 p2 p3 e1 (fun z => hd (hb.mpr z)), nI_1]
        exact g1
      · by_cases hj : j = n
        · subst hj; exact hd
        · exact z j (by omega) h4
theorem op_idle (N : Nat) (hN : 30000 ≤ N) (h : INV S C M T K) (x y : Int32) : ∃ r C' M', f_X10_idle N (hp X C M T) (some 8) x y = some (r, hp X C' M T) ∧ f_X11_idle N (hp X C' M T) (some 35) x y = some (r, hp X C' M' T) ∧ INV S C' M' T (K + 1) := by
  have hz := h.z
  have hI := h
  obtain ⟨hW, hC, hM⟩ := h
  obtain ⟨a1, a2, a3, a4, a5, mu, a6, a7⟩ := hC
  have wt := hW.2.2.1.1
  have hc := csN_le wt
  rcases i_cases x 4 (by decide) with ⟨k, hk, rfl⟩ | hx
  · obtain ⟨q, hq, hr⟩ := k_rin (X := X) (M := M) a6 hk
    have wr := hW.2.2.1.2 k hk
    have w12 := wr.2.1
    have mr : MRs (mZ M) k (t_sl (s_told S) k) := MRs.of hM.2.2.1 hk
    have m14 : (m0 M 0 0).2.2 14 k = nI (t_sl (s_told S) k).2.length := mr.2.1
    rcases i_cases y (t_sl (s_told S) k).2.length (by omega) with ⟨j, hj, rfl⟩ | hy
    · obtain ⟨l, hl'⟩ := at_ex _ hj
      obtain ⟨p, p1, p2⟩ := rl_at (X := X) (C := C) (M := M) hr hl' (by omega)
      obtain ⟨C', b, c1, c2, c3⟩ := k_idleL (X := X) (M := M) (k := j) N (by omega) a2 wt wr hr (by omega) (csN (s_told S)) N 0 C EqT.rf (by omega) (by omega)
      have mt : MTab (s_told S) 0 (mZ M).2.2 := hM.2.1
      obtain ⟨f, b', m1, m2⟩ := m_idleL (X := X) (C := C') (T := T) (M := mZ M) (k := j) N (by omega) hk mt wt wr mr rfl rfl (by omega) (24 * csN (s_told S)) N 0 ((mZ M).2.2 38) (by omega) (by omega)
      rw [mT_id, nI_0] at m1
      rw [nI_0] at c1
      have hbb : b' = b := by
        rw [Bool.eq_iff_iff, m2, c3]
        constructor
        · intro z j h1 h2 h h3
          have := z (24 * j + h) (by omega) (by omega)
          rwa [show (24 * j + h) / 24 = j by omega, show (24 * j + h) % 24 = h by omega] at this
        · intro z j h1 h2
          exact z (j / 24) (by omega) (by omega) (j % 24) (by omega)
      subst hbb
      exact ⟨_, C', mT (mZ M) f, iq_go io_8 hq (s_ne q) p1 (s_ne p) gr_8_2 (k_casN a2) b' c1, iM_go io_35 (pi_35_0 0) (isLi_t (M := m0 M 0 0) hk m14 hj (by omega)) (pi_35_39 0) (pi_35_40 0) b' m1, hI.eq c2 mZ_eq.mT⟩
    · exact ⟨0, C, m0 M 0 0, iq_nl io_8 hq (s_ne q) (rl_at_f hr hy), iM_no io_35 (pi_35_0 0) (isLi_f (M := m0 M 0 0) hk m14 hy (by omega)), hz⟩
  · exact ⟨0, C, m0 M 0 0, iq_no io_8 (k_rin_f hx), iM_no io_35 (pi_35_0 0) (isLi_f2 (M := m0 M 0 0) hx), hz⟩
def sumN (f : Nat → Nat) : Nat → Nat
  | 0 => 0
  | n + 1 => sumN f n + f n
/-- let by the one, stopped by the other -/
def mrQ (t : TLD) (r r' : RSV) (i h : Nat) : Bool := letR (evC t i) h r && !(letR (evC t i) h r')
theorem sum_cnt (Q : Nat → Nat → Bool) (c : Nat) : cntB (fun n => Q (n / 24) (n % 24)) (24 * c) = sumN (fun i => cntB (Q i) 24) c := by
  induction c with
  | zero => rfl
  | succ c ih =>
    have key : ∀ h, h ≤ 24 → cntB (fun n => Q (n / 24) (n % 24)) (24 * c + h) = cntB (fun n => Q (n / 24) (n % 24)) (24 * c) + cntB (Q c) h := by
      intro h
      induction h with
      | zero => intro _; rfl
      | succ h ih2 =>
        intro hh
        rw [← Nat.add_assoc, cntB_s, cntB_s, ih2 (by omega), show (24 * c + h) / 24 = c by omega, show (24 * c + h) % 24 = h by omega, Nat.add_assoc]
    rw [show 24 * (c + 1) = 24 * c + 24 by omega, key 24 (Nat.le_refl _), ih]; rfl
theorem k_moreL (N : Nat) (hN : 601 ≤ N) {t : TLD} {r r' : RSV} {q q' : Nat} (hR : RTab t (C.1 9) (C.1 10) (C.1 11) (C.2.1 2) (C.2.1 3) (C.2.1 4)) (hW : WTld t) (wr : WRs r) (hr : isRl mu T q r) (wr' : WRs r') (hr' : isRl mu T q' r') : ∀ (d m i : Nat) (C' : CS), EqT C C' → csN t = i + d → d < m → ∃ C'', l_X10_more_39 N m (hp X C' M T) (some 8) (some q) (some q') (nI (sumN (fun i => cntB (mrQ t r r' i) 24) i)) (nI (csN t)) (nI i) = some (nI (sumN (fun i => cntB (mrQ t r r' i) 24) (csN t)), hp X C'' M T) ∧ EqT C C'' := by
  have hc := csN_le hW
  intro d
  induction d with
  | zero =>
    intro m i C' hE h1 h2
    obtain ⟨m, rfl⟩ : ∃ k, m = k + 1 := ⟨m - 1, by omega⟩
    refine ⟨C', ?_, hE⟩
    rw [show csN t = i by omega]
    exact mo_end N m (nI_le (Nat.le_refl _) (by omega))
  | succ d ih =>
    intro m i C' hE h1 h2
    obtain ⟨m, rfl⟩ : ∃ k, m = k + 1 := ⟨m - 1, by omega⟩
    obtain ⟨C1, c1, c2, c3, c4⟩ := k_atCase (X := X) (M := M) (T := T) (hE.tab hR) hW (show i < csN t by omega)
    obtain ⟨f, v, u, u1, u2⟩ := k_hlet (X := X) (M := M) N hN c3 c4 wr hr
    obtain ⟨f', v', u', u1', u2'⟩ := k_hlet (X := X) (M := M) (C := kT C1 f v) N hN (c3.kT (f := f) (v := v)) c4 wr' hr'
    rw [kT_kT] at u1'
    have hlt : ¬ nI (csN t) ≤ nI i := nI_ge (by omega) (by omega)
    have hbit : ∀ j, j < 32 → bt (u &&& (u' ^^^ (-1))) j = (decide (j < 24) && mrQ t r r' i j) := fun j hj => by
      rw [b_and, bt_not _ hj, u2 j hj, u2' j hj]
      unfold mrQ
      by_cases q24 : j < 24
      · simp [q24]
      · simp [q24]
    have hbc := bc_24 (u &&& (u' ^^^ (-1))) (fun j h24 h32 => by rw [hbit j h32]; simp; omega)
    have hcn : cntB (bt (u &&& (u' ^^^ (-1)))) 24 = cntB (mrQ t r r' i) 24 := by
      unfold cntB
      refine List.countP_congr fun j hj => ?_
      have hj := List.mem_range.mp hj
      rw [hbit j (by omega)]; simp [hj]
    rw [hcn] at hbc
    obtain ⟨C'', g1, g2⟩ := ih m (i + 1) (kT C1 f' v') (hE.tr c2).kT (by omega) (by omega)
    refine ⟨C'', ?_, g2⟩
    rw [mo_go N m hlt gr_8_4 gr_8_2 c1 gr_8_4 u1 gr_8_4 u1' hbc, nI_1, nI_add]
    exact g1
theorem m_moreL (N : Nat) (hN : 1820 ≤ N) {t : TLD} {r r' : RSV} {s s' : Nat} (hs : s < 4) (hs' : s' < 4) (hT : MTab t 0 M.2.2) (hW : WTld t) (wr : WRs r) (hr : MRs M s r) (wr' : WRs r') (hr' : MRs M s' r') (h39 : M.1 39 = 0) (h40 : M.1 40 = 0) : ∀ (d m n : Nat) (f : Nat → Int32), 24 * csN t = n + d → d < m → ∃ f', l_X11_more_38 N m (hp X C (mT M f) T) (some 35) (nI s) (nI s') (nI (cntB (fun n => mrQ t r r' (n / 24) (n % 24)) n)) (nI n) = some (nI (cntB (fun n => mrQ t r r' (n / 24) (n % 24)) (24 * csN t)), hp X C (mT M f') T) := by
  have hc := csN_le hW
  have hT' : ∀ f, MTab t 0 (mT M f).2.2 := fun f => hT.agr hW (fun a i hi => by
    by_cases e : a = 38
    · subst e; exact absurd hi (Nat.not_lt_zero _)
    · rw [mT_n e])
  intro d
  induction d with
  | zero =>
    intro m n f h1 h2
    obtain ⟨m, rfl⟩ : ∃ k, m = k + 1 := ⟨m - 1, by omega⟩
    refine ⟨f, ?_⟩
    rw [show 24 * csN t = n by omega]
    exact mm_end N m ((m_allN (hT' f)).trans (by rw [h1]; rfl)) (nI_le (Nat.le_refl _) (by omega))
  | succ d ih =>
    intro m n f h1 h2
    obtain ⟨m, rfl⟩ : ∃ k, m = k + 1 := ⟨m - 1, by omega⟩
    have hn : n < 24 * csN t := by omega
    obtain ⟨f1, e1⟩ := m_allLet (X := X) (C := C) (T := T) (M := mT M f) N hN hs (hT' f) hW wr hr.mT h39 h40 hn
    rw [mT_mT] at e1
    obtain ⟨f2, e2⟩ := m_allLet (X := X) (C := C) (T := T) (M := mT M f1) N hN hs' (hT' f1) hW wr' hr'.mT h39 h40 hn
    rw [mT_mT] at e2
    have hlt : ¬ nI (24 * csN t) ≤ nI n := nI_ge (by omega) (by omega)
    have hs1 := cntB_s (fun n => mrQ t r r' (n / 24) (n % 24)) n
    cases z1 : letR (evC t (n / 24)) (n % 24) r with
    | false =>
      rw [z1] at e1
      have hq : mrQ t r r' (n / 24) (n % 24) = false := by unfold mrQ; rw [z1]; rfl
      obtain ⟨f', g1⟩ := ih m (n + 1) f1 (by omega) (by omega)
      refine ⟨f', ?_⟩
      rw [mm_0 N m (m_allN (hT' f)) hlt e1, nI_1, Int32.add_zero]
      rw [hs1, hq] at g1
      exact g1
    | true =>
      rw [z1] at e1
      have hq : mrQ t r r' (n / 24) (n % 24) = !(letR (evC t (n / 24)) (n % 24) r') := by unfold mrQ; rw [z1]; rfl
      obtain ⟨f', g1⟩ := ih m (n + 1) f2 (by omega) (by omega)
      refine ⟨f', ?_⟩
      rw [mm_1 N m (m_allN (hT' f)) hlt e1 _ e2, nI_1]
      rw [hs1, hq] at g1
      have : ∀ b : Bool, ∀ z : Nat, nI z + b01 b = nI (z + cond b 1 0) := fun b z => by
        cases b
        · exact Int32.add_zero _
        · exact nI_1 z
      rw [this]
      exact g1
theorem rin_ex (h : RSl mu T (t_sl (s_told S)) (C.2.2 1)) (y : Int32) : ∃ p', f_X10_rulesIn (hp X C M T) (some 8) y = some p' := by
  rcases i_cases y 4 (by decide) with ⟨k', hk', rfl⟩ | hy
  · obtain ⟨q', hq', hr'⟩ := k_rin (X := X) (M := M) h hk'
    exact ⟨_, hq'⟩
  · exact ⟨_, k_rin_f hy⟩
theorem op_more (N : Nat) (hN : 30000 ≤ N) (h : INV S C M T K) (x y : Int32) : ∃ r C' M', f_X10_more N (hp X C M T) (some 8) x y = some (r, hp X C' M T) ∧ f_X11_more N (hp X C' M T) (some 35) x y = some (r, hp X C' M' T) ∧ INV S C' M' T (K + 1) := by
  have hz := h.z
  have hI := h
  obtain ⟨hW, hC, hM⟩ := h
  obtain ⟨a1, a2, a3, a4, a5, mu, a6, a7⟩ := hC
  have wt := hW.2.2.1.1
  have hc := csN_le wt
  rcases i_cases x 4 (by decide) with ⟨k, hk, rfl⟩ | hx
  · obtain ⟨q, hq, hr⟩ := k_rin (X := X) (M := M) a6 hk
    rcases i_cases y 4 (by decide) with ⟨k', hk', rfl⟩ | hy
    · obtain ⟨q', hq', hr'⟩ := k_rin (X := X) (M := M) a6 hk'
      have wr := hW.2.2.1.2 k hk
      have wr' := hW.2.2.1.2 k' hk'
      have mr : MRs (mZ M) k (t_sl (s_told S) k) := MRs.of hM.2.2.1 hk
      have mr' : MRs (mZ M) k' (t_sl (s_told S) k') := MRs.of hM.2.2.1 hk'
      have mt : MTab (s_told S) 0 (mZ M).2.2 := hM.2.1
      obtain ⟨C', c1, c2⟩ := k_moreL (X := X) (M := M) N (by omega) a2 wt wr hr wr' hr' (csN (s_told S)) N 0 C EqT.rf (by omega) (by omega)
      obtain ⟨f, m1⟩ := m_moreL (X := X) (C := C') (T := T) (M := mZ M) N (by omega) hk hk' mt wt wr mr wr' mr' rfl rfl (24 * csN (s_told S)) N 0 ((mZ M).2.2 38) (by omega) (by omega)
      rw [mT_id, sum_cnt (mrQ (s_told S) (t_sl (s_told S) k) (t_sl (s_told S) k'))] at m1
      exact ⟨_, C', mT (mZ M) f, mq_go io_8 hq (s_ne q) hq' (s_ne q') gr_8_2 (k_casN a2) c1, mM_go io_35 (pi_35_0 0) (slz hk) (slz hk') (pi_35_39 0) (pi_35_40 0) m1, hI.eq c2 mZ_eq.mT⟩
    · exact ⟨-1, C, m0 M 0 0, mq_no2 io_8 hq (s_ne q) (k_rin_f hy), mM_no2 io_35 (pi_35_0 0) (slz hk) (slf hy), hz⟩
  · obtain ⟨p', hp'⟩ := rin_ex (X := X) (M := M) a6 y
    exact ⟨-1, C, m0 M 0 0, mq_no1 io_8 (k_rin_f hx) hp', mM_no1 io_35 (pi_35_0 0) (slf hx), hz⟩
end IMU
