/-! the text taken apart: the class -/
section TKK
variable {X : XS} {C : CS} {M : MS} {T : TS} {tp : List Nat}
/-- the tape at hand -/
def TP (tp : List Nat) (C : CS) : Prop := RTape tp (C.1 0) (C.2.1 0) ∧ tp.length ≤ 600 ∧ ∀ x ∈ tp, x < 256
theorem TP.b {i c : Nat} (h : TP tp C) (hi : tp[i]? = some c) : c < 256 := h.2.2 c (List.mem_of_getElem? hi)
theorem TP.c0 {k : Nat} {v : Int32} (h : TP tp C) (hk : k ≠ 0) : TP tp (c0 C k v) := ⟨by
  show RTape tp (up C.1 k v 0) (C.2.1 0)
  rw [up_n _ _ (Ne.symm hk)]; exact h.1, h.2⟩
section TKA
variable {A A1 A2 A3 A4 : LH} {q x b : Option Nat} {n v w l s p : Int32}
theorem at_o (h0 : isO A q 6 = true) (h1 : ¬ v < 0) (h2 : gI A q 6 1 = some n) (h3 : n ≤ v) : f_X6_at A q v = some (-1) := by
  unfold f_X6_at b_X6_at
  (repeat (first | with_reducible rfl | refine (bnd_eq (by first | with_reducible assumption)).trans ?_ | refine (if_pos (by first | with_reducible assumption | with_reducible rfl | decide | (dsimp only; first | with_reducible assumption | with_reducible rfl | decide))).trans ?_ | refine (if_neg (by first | with_reducible assumption | decide | (dsimp only; first | with_reducible assumption | decide))).trans ?_))
theorem at_i (h0 : isO A q 6 = true) (h1 : ¬ v < 0) (h2 : gI A q 6 1 = some n) (h3 : ¬ n ≤ v) (h4 : gR A q 6 0 = some b) (h5 : ln6 A b = some l) (h6 : ¬ l ≤ v) (h7 : aI A b 0 v = some w) : f_X6_at A q v = some w := by
  unfold f_X6_at b_X6_at
  (repeat (first | with_reducible rfl | refine (bnd_eq (by first | with_reducible assumption)).trans ?_ | refine (if_pos (by first | with_reducible assumption | with_reducible rfl | decide | (dsimp only; first | with_reducible assumption | with_reducible rfl | decide))).trans ?_ | refine (if_neg (by first | with_reducible assumption | decide | (dsimp only; first | with_reducible assumption | decide))).trans ?_))
theorem tl_e (N : Nat) {k : LH → Option Nat → Option LH} (h1 : gI A q 7 4 = some v) (h2 : gR A q 7 0 = some x) (h3 : gI A x 6 1 = some n) (h4 : n ≤ v) : b_X7_takeLetters_0 N k A q = some A := by
  unfold b_X7_takeLetters_0
  (repeat (first | with_reducible rfl | refine (bnd_eq (by first | with_reducible assumption)).trans ?_ | refine (if_pos (by first | with_reducible assumption | with_reducible rfl | decide | (dsimp only; first | with_reducible assumption | with_reducible rfl | decide))).trans ?_ | refine (if_neg (by first | with_reducible assumption | decide | (dsimp only; first | with_reducible assumption | decide))).trans ?_))
theorem tl_f (N : Nat) {k : LH → Option Nat → Option LH} (h1 : gI A q 7 4 = some v) (h2 : gR A q 7 0 = some x) (h3 : gI A x 6 1 = some n) (h4 : ¬ n ≤ v) (h5 : f_X6_at A x v = some w) (h6 : f_X7_isLetter w = some 0) : b_X7_takeLetters_0 N k A q = some A := by
  unfold b_X7_takeLetters_0
  (repeat (first | with_reducible rfl | refine (bnd_eq (by first | with_reducible assumption)).trans ?_ | refine (if_pos (by first | with_reducible assumption | with_reducible rfl | decide | (dsimp only; first | with_reducible assumption | with_reducible rfl | decide))).trans ?_ | refine (if_neg (by first | with_reducible assumption | decide | (dsimp only; first | with_reducible assumption | decide))).trans ?_))
theorem tl_t (N : Nat) {k : LH → Option Nat → Option LH} (h1 : gI A q 7 4 = some v) (h2 : gR A q 7 0 = some x) (h3 : gI A x 6 1 = some n) (h4 : ¬ n ≤ v) (h5 : f_X6_at A x v = some w) (h6 : f_X7_isLetter w = some 1) (h7 : pF A q 7 4 (LI (v + 1)) = some A1) : b_X7_takeLetters_0 N k A q = k A1 q := by
  have i1 := i1_ne
  unfold b_X7_takeLetters_0
  (repeat (first | with_reducible rfl | refine (bnd_eq (by first | with_reducible assumption)).trans ?_ | refine (if_pos (by first | with_reducible assumption | with_reducible rfl | decide | (dsimp only; first | with_reducible assumption | with_reducible rfl | decide))).trans ?_ | refine (if_neg (by first | with_reducible assumption | decide | (dsimp only; first | with_reducible assumption | decide))).trans ?_))
theorem td_e (N : Nat) {k : LH → Option Nat → Option LH} (h1 : gI A q 7 4 = some v) (h2 : gR A q 7 0 = some x) (h3 : gI A x 6 1 = some n) (h4 : n ≤ v) : b_X7_takeDigits_5 N k A q = some A := by
  unfold b_X7_takeDigits_5
  (repeat (first | with_reducible rfl | refine (bnd_eq (by first | with_reducible assumption)).trans ?_ | refine (if_pos (by first | with_reducible assumption | with_reducible rfl | decide | (dsimp only; first | with_reducible assumption | with_reducible rfl | decide))).trans ?_ | refine (if_neg (by first | with_reducible assumption | decide | (dsimp only; first | with_reducible assumption | decide))).trans ?_))
theorem td_f (N : Nat) {k : LH → Option Nat → Option LH} (h1 : gI A q 7 4 = some v) (h2 : gR A q 7 0 = some x) (h3 : gI A x 6 1 = some n) (h4 : ¬ n ≤ v) (h5 : f_X6_at A x v = some w) (h6 : f_X7_isDigit w = some 0) : b_X7_takeDigits_5 N k A q = some A := by
  unfold b_X7_takeDigits_5
  (repeat (first | with_reducible rfl | refine (bnd_eq (by first | with_reducible assumption)).trans ?_ | refine (if_pos (by first | with_reducible assumption | with_reducible rfl | decide | (dsimp only; first | with_reducible assumption | with_reducible rfl | decide))).trans ?_ | refine (if_neg (by first | with_reducible assumption | decide | (dsimp only; first | with_reducible assumption | decide))).trans ?_))
theorem td_t (N : Nat) {k : LH → Option Nat → Option LH} (h1 : gI A q 7 4 = some v) (h2 : gR A q 7 0 = some x) (h3 : gI A x 6 1 = some n) (h4 : ¬ n ≤ v) (h5 : f_X6_at A x v = some w) (h6 : f_X7_isDigit w = some 1) (h7 : gI A q 7 3 = some p) (h8 : ¬ (3 : Int32) ≤ v - p) (h9 : gI A q 7 2 = some s) (h10 : pF A q 7 2 (LI (((s * (10 : Int32)) + w) - (48 : Int32))) = some A1) (h11 : gI A1 q 7 4 = some v) (h12 : pF A1 q 7 4 (LI (v + 1)) = some A2) : b_X7_takeDigits_5 N k A q = k A2 q := by
  have i1 := i1_ne
  unfold b_X7_takeDigits_5 b_X7_takeDigits_75
  (repeat (first | with_reducible rfl | refine (bnd_eq (by first | with_reducible assumption)).trans ?_ | refine (if_pos (by first | with_reducible assumption | with_reducible rfl | decide | (dsimp only; first | with_reducible assumption | with_reducible rfl | decide))).trans ?_ | refine (if_neg (by first | with_reducible assumption | decide | (dsimp only; first | with_reducible assumption | decide))).trans ?_))
theorem td_o (N : Nat) {k : LH → Option Nat → Option LH} (h1 : gI A q 7 4 = some v) (h2 : gR A q 7 0 = some x) (h3 : gI A x 6 1 = some n) (h4 : ¬ n ≤ v) (h5 : f_X6_at A x v = some w) (h6 : f_X7_isDigit w = some 1) (h7 : gI A q 7 3 = some p) (h8 : (3 : Int32) ≤ v - p) (h12 : pF A q 7 4 (LI (v + 1)) = some A2) : b_X7_takeDigits_5 N k A q = k A2 q := by
  have i1 := i1_ne
  unfold b_X7_takeDigits_5 b_X7_takeDigits_75
  (repeat (first | with_reducible rfl | refine (bnd_eq (by first | with_reducible assumption)).trans ?_ | refine (if_pos (by first | with_reducible assumption | with_reducible rfl | decide | (dsimp only; first | with_reducible assumption | with_reducible rfl | decide))).trans ?_ | refine (if_neg (by first | with_reducible assumption | decide | (dsimp only; first | with_reducible assumption | decide))).trans ?_))
theorem sb_e (N : Nat) {k : LH → Option Nat → Option LH} (h1 : gI A q 7 4 = some v) (h2 : gR A q 7 0 = some x) (h3 : gI A x 6 1 = some n) (h4 : n ≤ v) : b_X7_step_0 N k A q = b_X7_step_44 N A q := by
  unfold b_X7_step_0
  (repeat (first | with_reducible rfl | refine (bnd_eq (by first | with_reducible assumption)).trans ?_ | refine (if_pos (by first | with_reducible assumption | with_reducible rfl | decide | (dsimp only; first | with_reducible assumption | with_reducible rfl | decide))).trans ?_ | refine (if_neg (by first | with_reducible assumption | decide | (dsimp only; first | with_reducible assumption | decide))).trans ?_))
theorem sb_f (N : Nat) {k : LH → Option Nat → Option LH} (h1 : gI A q 7 4 = some v) (h2 : gR A q 7 0 = some x) (h3 : gI A x 6 1 = some n) (h4 : ¬ n ≤ v) (h5 : f_X6_at A x v = some w) {z : Int32} (h6 : f_X7_isBlank w = some z) (hz : z = 0) : b_X7_step_0 N k A q = b_X7_step_44 N A q := by
  unfold b_X7_step_0
  (repeat (first | with_reducible rfl | refine (bnd_eq (by first | with_reducible assumption)).trans ?_ | refine (if_pos (by first | with_reducible assumption | with_reducible rfl | decide | (dsimp only; first | with_reducible assumption | with_reducible rfl | decide))).trans ?_ | refine (if_neg (by first | with_reducible assumption | decide | (dsimp only; first | with_reducible assumption | decide))).trans ?_))
theorem sb_t (N : Nat) {k : LH → Option Nat → Option LH} (h1 : gI A q 7 4 = some v) (h2 : gR A q 7 0 = some x) (h3 : gI A x 6 1 = some n) (h4 : ¬ n ≤ v) (h5 : f_X6_at A x v = some w) (h6 : f_X7_isBlank w = some 1) (h7 : pF A q 7 4 (LI (v + 1)) = some A1) : b_X7_step_0 N k A q = k A1 q := by
  have i1 := i1_ne
  unfold b_X7_step_0
  (repeat (first | with_reducible rfl | refine (bnd_eq (by first | with_reducible assumption)).trans ?_ | refine (if_pos (by first | with_reducible assumption | with_reducible rfl | decide | (dsimp only; first | with_reducible assumption | with_reducible rfl | decide))).trans ?_ | refine (if_neg (by first | with_reducible assumption | decide | (dsimp only; first | with_reducible assumption | decide))).trans ?_))
theorem sx_e (N : Nat) (h1 : gI A q 7 4 = some v) (h2 : pF A q 7 3 (LI v) = some A1) (h3 : gR A1 q 7 0 = some x) (h4 : gI A1 q 7 4 = some v) (h5 : f_X6_at A1 x v = some (-1)) (h6 : pF A1 q 7 1 (LI 0) = some A2) : b_X7_step_44 N A q = some A2 := by
  unfold b_X7_step_44
  (repeat (first | with_reducible rfl | refine (bnd_eq (by first | with_reducible assumption)).trans ?_ | refine (if_pos (by first | with_reducible assumption | with_reducible rfl | decide | (dsimp only; first | with_reducible assumption | with_reducible rfl | decide))).trans ?_ | refine (if_neg (by first | with_reducible assumption | decide | (dsimp only; first | with_reducible assumption | decide))).trans ?_))
theorem sx_l (N : Nat) (h1 : gI A q 7 4 = some v) (h2 : pF A q 7 3 (LI v) = some A1) (h3 : gR A1 q 7 0 = some x) (h4 : gI A1 q 7 4 = some v) (h5 : f_X6_at A1 x v = some w) (h6 : ¬ w = -1) (h7 : f_X7_isLetter w = some 1) (h8 : f_X7_takeLetters N A1 q = some A2) (h9 : f_X7_kindOfWord N A2 q = some s) (h10 : pF A2 q 7 1 (LI s) = some A3) : b_X7_step_44 N A q = some A3 := by
  have i1 := i1_ne
  unfold b_X7_step_44
  (repeat (first | with_reducible rfl | refine (bnd_eq (by first | with_reducible assumption)).trans ?_ | refine (if_pos (by first | with_reducible assumption | with_reducible rfl | decide | (dsimp only; first | with_reducible assumption | with_reducible rfl | decide))).trans ?_ | refine (if_neg (by first | with_reducible assumption | decide | (dsimp only; first | with_reducible assumption | decide))).trans ?_))
theorem sx_d1 (N : Nat) (h1 : gI A q 7 4 = some v) (h2 : pF A q 7 3 (LI v) = some A1) (h3 : gR A1 q 7 0 = some x) (h4 : gI A1 q 7 4 = some v) (h5 : f_X6_at A1 x v = some w) (h6 : ¬ w = -1) (h7 : f_X7_isLetter w = some 0) (h8 : f_X7_isDigit w = some 1) (h9 : f_X7_takeDigits N A1 q = some A2) (h10 : gI A2 q 7 4 = some n) (h11 : gI A2 q 7 3 = some p) (h12 : n - p ≤ 3) (h13 : pF A2 q 7 1 (LI 1) = some A3) : b_X7_step_44 N A q = some A3 := by
  have i1 := i1_ne
  unfold b_X7_step_44 b_X7_step_129
  (repeat (first | with_reducible rfl | refine (bnd_eq (by first | with_reducible assumption)).trans ?_ | refine (if_pos (by first | with_reducible assumption | with_reducible rfl | decide | (dsimp only; first | with_reducible assumption | with_reducible rfl | decide))).trans ?_ | refine (if_neg (by first | with_reducible assumption | decide | (dsimp only; first | with_reducible assumption | decide))).trans ?_))
theorem sx_d2 (N : Nat) (h1 : gI A q 7 4 = some v) (h2 : pF A q 7 3 (LI v) = some A1) (h3 : gR A1 q 7 0 = some x) (h4 : gI A1 q 7 4 = some v) (h5 : f_X6_at A1 x v = some w) (h6 : ¬ w = -1) (h7 : f_X7_isLetter w = some 0) (h8 : f_X7_isDigit w = some 1) (h9 : f_X7_takeDigits N A1 q = some A2) (h10 : gI A2 q 7 4 = some n) (h11 : gI A2 q 7 3 = some p) (h12 : ¬ n - p ≤ 3) (h13 : pF A2 q 7 1 (LI 2) = some A3) : b_X7_step_44 N A q = some A3 := by
  have i1 := i1_ne
  unfold b_X7_step_44 b_X7_step_129
  (repeat (first | with_reducible rfl | refine (bnd_eq (by first | with_reducible assumption)).trans ?_ | refine (if_pos (by first | with_reducible assumption | with_reducible rfl | decide | (dsimp only; first | with_reducible assumption | with_reducible rfl | decide))).trans ?_ | refine (if_neg (by first | with_reducible assumption | decide | (dsimp only; first | with_reducible assumption | decide))).trans ?_))
theorem sx_g (N : Nat) (h1 : gI A q 7 4 = some v) (h2 : pF A q 7 3 (LI v) = some A1) (h3 : gR A1 q 7 0 = some x) (h4 : gI A1 q 7 4 = some v) (h5 : f_X6_at A1 x v = some w) (h6 : ¬ w = -1) (h7 : f_X7_isLetter w = some 0) (h8 : f_X7_isDigit w = some 0) (h9 : f_X7_isSign w = some 1) (h10 : pF A1 q 7 1 (LI w) = some A2) (h11 : gI A2 q 7 4 = some v) (h13 : pF A2 q 7 4 (LI (v + 1)) = some A3) : b_X7_step_44 N A q = some A3 := by
  have i1 := i1_ne
  unfold b_X7_step_44 b_X7_step_148
  (repeat (first | with_reducible rfl | refine (bnd_eq (by first | with_reducible assumption)).trans ?_ | refine (if_pos (by first | with_reducible assumption | with_reducible rfl | decide | (dsimp only; first | with_reducible assumption | with_reducible rfl | decide))).trans ?_ | refine (if_neg (by first | with_reducible assumption | decide | (dsimp only; first | with_reducible assumption | decide))).trans ?_))
theorem sx_w (N : Nat) (h1 : gI A q 7 4 = some v) (h2 : pF A q 7 3 (LI v) = some A1) (h3 : gR A1 q 7 0 = some x) (h4 : gI A1 q 7 4 = some v) (h5 : f_X6_at A1 x v = some w) (h6 : ¬ w = -1) (h7 : f_X7_isLetter w = some 0) (h8 : f_X7_isDigit w = some 0) (h9 : f_X7_isSign w = some 0) (h10 : pF A1 q 7 1 (LI 2) = some A2) (h11 : gI A2 q 7 4 = some v) (h13 : pF A2 q 7 4 (LI (v + 1)) = some A3) : b_X7_step_44 N A q = some A3 := by
  unfold b_X7_step_44 b_X7_step_148
  (repeat (first | with_reducible rfl | refine (bnd_eq (by first | with_reducible assumption)).trans ?_ | refine (if_pos (by first | with_reducible assumption | with_reducible rfl | decide | (dsimp only; first | with_reducible assumption | with_reducible rfl | decide))).trans ?_ | refine (if_neg (by first | with_reducible assumption | decide | (dsimp only; first | with_reducible assumption | decide))).trans ?_))
end TKA
/-- the byte at a place -/
theorem k_at {i : Nat} (h : TP tp C) (hi : i < 2 ^ 31) : f_X6_at (hp X C M T) (some 9) (nI i) = some (sg tp i) := by
  obtain ⟨⟨h1, h2⟩, h3, h4⟩ := h
  cases e : tp[i]? with
  | none =>
    rw [sg_n e]
    have hl := List.getElem?_eq_none_iff.mp e
    exact at_o io_9 (nI_pos hi) (gi_9_1.trans (congrArg some h1)) (nI_le hl hi)
  | some c =>
    rw [sg_s e]
    have hl := at_lt e
    exact at_i io_9 (nI_pos hi) (gi_9_1.trans (congrArg some h1)) (nI_ge hl (by omega)) gr_9_0 ln_10 (nI_ge (by omega) (by decide)) ((ai_10 (by omega)).trans (congrArg some (h2 i c e)))
theorem c0_s {k : Nat} {v : Int32} : (c0 C k v).1 k = v := by rw [c0_1, up_s]
theorem c0_n {k j : Nat} {v : Int32} (h : j ≠ k) : (c0 C k v).1 j = C.1 j := by rw [c0_1, up_n _ _ h]
theorem c0_self {k : Nat} {v : Int32} (h : C.1 k = v) : c0 C k v = C := by
  unfold c0
  have : up C.1 k v = C.1 := by
    funext j
    by_cases hj : j = k
    · rw [hj, up_s, h]
    · rw [up_n _ _ hj]
  rw [this]
theorem c0_sw {k j : Nat} {v w : Int32} (h : j ≠ k) : c0 (c0 C k v) j w = c0 (c0 C j w) k v := by
  unfold c0
  have : up (up C.1 k v) j w = up (up C.1 j w) k v := by
    funext i
    by_cases h1 : i = j
    · rw [h1, up_s, up_n _ _ h, up_s]
    · rw [up_n _ _ h1]
      by_cases h2 : i = k
      · rw [h2, up_s, up_s]
      · rw [up_n _ _ h2, up_n _ _ h2, up_n _ _ h1]
  show (up (up C.1 k v) j w, C.2) = (up (up C.1 j w) k v, C.2)
  rw [this]
theorem k_letters (N : Nat) : ∀ (n i m : Nat) (C : CS), TP tp C → C.1 4 = nI i → i ≤ tp.length → spn lL tp i = n → n < m → l_X7_takeLetters_0 N m (hp X C M T) (some 12) = some (hp X (c0 C 4 (nI (i + n))) M T) := by
  intro n
  induction n with
  | zero =>
    intro i m C h h4 hl hs hm
    obtain ⟨m', rfl⟩ : ∃ m', m = m' + 1 := ⟨m - 1, by omega⟩
    have h6 := h.2.1
    have g4 : gI (hp X C M T) (some 12) 7 4 = some (nI i) := gi_12_4.trans (congrArg some h4)
    have gn : gI (hp X C M T) (some 9) 6 1 = some (nI tp.length) := gi_9_1.trans (congrArg some h.1.1)
    show _ = some (hp X (c0 C 4 (nI i)) M T)
    rw [c0_self h4]
    show b_X7_takeLetters_0 N _ _ _ = _
    rcases spn_0 hs with e | ⟨c, e, hc⟩
    · exact tl_e N g4 gr_12_0 gn (nI_le (List.getElem?_eq_none_iff.mp e) (by omega))
    · have ha := k_at (X := X) (M := M) (T := T) h (i := i) (by omega)
      rw [sg_s e] at ha
      have hb := isLt (h.b e)
      rw [hc] at hb
      exact tl_f N g4 gr_12_0 gn (nI_ge (at_lt e) (by omega)) ha hb
  | succ n ih =>
    intro i m C h h4 hl hs hm
    obtain ⟨m', rfl⟩ : ∃ m', m = m' + 1 := ⟨m - 1, by omega⟩
    have h6 := h.2.1
    have g4 : gI (hp X C M T) (some 12) 7 4 = some (nI i) := gi_12_4.trans (congrArg some h4)
    have gn : gI (hp X C M T) (some 9) 6 1 = some (nI tp.length) := gi_9_1.trans (congrArg some h.1.1)
    obtain ⟨c, e, hc, hs'⟩ := spn_1 hs
    have ha := k_at (X := X) (M := M) (T := T) h (i := i) (by omega)
    rw [sg_s e] at ha
    have hb := isLt (h.b e)
    rw [hc] at hb
    have hlt := at_lt e
    have hr := ih (i + 1) m' (c0 C 4 (nI (i + 1))) (h.c0 (by decide)) c0_s (by omega) hs' (by omega)
    rw [c0c0] at hr
    show b_X7_takeLetters_0 N _ _ _ = _
    rw [tl_t N g4 gr_12_0 gn (nI_ge (at_lt e) (by omega)) ha hb (A1 := hp X (c0 C 4 (nI (i + 1))) M T) (by rw [nI_1]; exact pi_12_4 _), hr, show i + 1 + n = i + (n + 1) by omega]
theorem dv_ (l : List Nat) (c : Nat) : dVal (l ++ [c]) = dVal l * 10 + (c - 48) := by unfold dVal; rw [List.foldl_append]; rfl
theorem dv_l2 : ∀ (l : List Nat) (a : Nat), (∀ c ∈ l, dL c = true) → l.foldl (fun a c => a * 10 + (c - 48)) a < (a + 1) * 10 ^ l.length := by
  intro l
  induction l with
  | nil => intro a _; show a < (a + 1) * 1; omega
  | cons c l ih =>
    intro a h
    have h1 := ih (a * 10 + (c - 48)) (fun x hx => h x (List.mem_cons_of_mem _ hx))
    have h3 := of_decide_eq_true (show decide (48 ≤ c ∧ c ≤ 57) = true from h c List.mem_cons_self)
    rw [List.foldl_cons, List.length_cons, Nat.pow_succ]
    refine Nat.lt_of_lt_of_le h1 ?_
    rw [Nat.mul_comm (10 ^ l.length) 10, ← Nat.mul_assoc]
    exact Nat.mul_le_mul_right _ (by omega)
theorem dv_lt (l : List Nat) (h : ∀ c ∈ l, dL c = true) : dVal l < 10 ^ l.length := by
  have := dv_l2 l 0 h
  rw [Nat.zero_add, Nat.one_mul] at this
  exact this
theorem nI_sub' {a b : Nat} (h : b ≤ a) : nI a - nI b = nI (a - b) := by
  have : nI (a - b) + nI b = nI a := by rw [nI_add, Nat.sub_add_cancel h]
  rw [← this, Int32.add_sub_cancel]
theorem nI_ml (a b : Nat) : nI a * nI b = nI (a * b) := (Int32.ofNat_mul a b).symm
theorem c0_x {a b c d : Int32} : c0 (c0 (c0 (c0 C 2 a) 4 b) 2 c) 4 d = c0 (c0 C 2 c) 4 d := by rw [c0_sw (C := c0 C 2 a) (k := 4) (j := 2) (by decide), c0c0, c0c0]
theorem c0_y {b c d : Int32} : c0 (c0 (c0 C 4 b) 2 c) 4 d = c0 (c0 C 2 c) 4 d := by rw [c0_sw (C := C) (k := 4) (j := 2) (by decide), c0c0]
/-- the digits from p on, as far as i -/
def dg3 (tp : List Nat) (p i : Nat) : Nat := dVal (((tp.drop p).take (i - p)).take 3)
theorem tk_s {i p c : Nat} (hp : p ≤ i) (h : tp[i]? = some c) : (tp.drop p).take (i + 1 - p) = (tp.drop p).take (i - p) ++ [c] := by
  rw [show i + 1 - p = (i - p) + 1 by omega, List.take_add_one, List.getElem?_drop, show p + (i - p) = i by omega, h]; rfl
theorem k_digits (N : Nat) {p : Nat} : ∀ (n i m : Nat) (C : CS), TP tp C → C.1 4 = nI i → C.1 3 = nI p → C.1 2 = nI (dg3 tp p i) → p ≤ i → i ≤ tp.length → (∀ c ∈ (tp.drop p).take (i - p), dL c = true) → spn dL tp i = n → n < m → l_X7_takeDigits_5 N m (hp X C M T) (some 12) = some (hp X (c0 (c0 C 2 (nI (dg3 tp p (i + n)))) 4 (nI (i + n))) M T) := by
  intro n
  induction n with
  | zero =>
    intro i m C h h4 h3 h2 hpi hl hd hs hm
    obtain ⟨m', rfl⟩ : ∃ m', m = m' + 1 := ⟨m - 1, by omega⟩
    have h6 := h.2.1
    have g4 : gI (hp X C M T) (some 12) 7 4 = some (nI i) := gi_12_4.trans (congrArg some h4)
    have gn : gI (hp X C M T) (some 9) 6 1 = some (nI tp.length) := gi_9_1.trans (congrArg some h.1.1)
    show _ = some (hp X (c0 (c0 C 2 (nI (dg3 tp p i))) 4 (nI i)) M T)
    rw [c0_self h2, c0_self h4]
    show b_X7_takeDigits_5 N _ _ _ = _
    rcases spn_0 hs with e | ⟨c, e, hc⟩
    · exact td_e N g4 gr_12_0 gn (nI_le (List.getElem?_eq_none_iff.mp e) (by omega))
    · have ha := k_at (X := X) (M := M) (T := T) h (i := i) (by omega)
      rw [sg_s e] at ha
      have hb := isDg (h.b e)
      rw [hc] at hb
      exact td_f N g4 gr_12_0 gn (nI_ge (at_lt e) (by omega)) ha hb
  | succ n ih =>
    intro i m C h h4 h3 h2 hpi hl hd hs hm
    obtain ⟨m', rfl⟩ : ∃ m', m = m' + 1 := ⟨m - 1, by omega⟩
    have h6 := h.2.1
    have g4 : gI (hp X C M T) (some 12) 7 4 = some (nI i) := gi_12_4.trans (congrArg some h4)
    have g3 : gI (hp X C M T) (some 12) 7 3 = some (nI p) := gi_12_3.trans (congrArg some h3)
    have g2 : gI (hp X C M T) (some 12) 7 2 = some (nI (dg3 tp p i)) := gi_12_2.trans (congrArg some h2)
    have gn : gI (hp X C M T) (some 9) 6 1 = some (nI tp.length) := gi_9_1.trans (congrArg some h.1.1)
    obtain ⟨c, e, hc, hs'⟩ := spn_1 hs
    have ha := k_at (X := X) (M := M) (T := T) h (i := i) (by omega)
    rw [sg_s e] at ha
    have hb := isDg (h.b e)
    rw [hc] at hb
    have hlt := at_lt e
    have hts := tk_s hpi e
    have hd' : ∀ x ∈ (tp.drop p).take (i + 1 - p), dL x = true := by
      rw [hts]
      intro x hx
      rcases List.mem_append.mp hx with h1 | h1
      · exact hd x h1
      · rw [List.mem_singleton.mp h1]; exact hc
    have hln : ((tp.drop p).take (i - p)).length = i - p := by rw [List.length_take, List.length_drop]; omega
    have hsub : nI i - nI p = nI (i - p) := nI_sub' hpi
    show b_X7_takeDigits_5 N _ _ _ = _
    by_cases h3' : i - p < 3
    · have hv : dg3 tp p (i + 1) = dg3 tp p i * 10 + (c - 48) := by
        unfold dg3
        rw [hts, List.take_of_length_le (by rw [List.length_append, hln, List.length_singleton]; omega), List.take_of_length_le (l := (tp.drop p).take (i - p)) (by rw [hln]; omega), dv_]
      have hcv := of_decide_eq_true (show decide (48 ≤ c ∧ c ≤ 57) = true from hc)
      have hlt2 : dg3 tp p i < 1000 := by
        unfold dg3
        have := dv_lt (((tp.drop p).take (i - p)).take 3) (fun x hx => hd x (List.mem_of_mem_take hx))
        refine Nat.lt_of_lt_of_le this (Nat.le_trans (Nat.pow_le_pow_right (by decide) (show _ ≤ 3 by rw [List.length_take]; omega)) (by decide))
      have hval : nI (dg3 tp p i) * (10 : Int32) + nI c - (48 : Int32) = nI (dg3 tp p (i + 1)) := by
        rw [hv, show (10 : Int32) = nI 10 by decide, show (48 : Int32) = nI 48 by decide, nI_ml, nI_add, nI_sub' (by omega), show dg3 tp p i * 10 + c - 48 = dg3 tp p i * 10 + (c - 48) by omega]
      have hr := ih (i + 1) m' (c0 (c0 C 2 (nI (dg3 tp p (i + 1)))) 4 (nI (i + 1))) ((h.c0 (by decide)).c0 (by decide)) c0_s (by rw [c0_n (by decide), c0_n (by decide), h3]) (by rw [c0_n (by decide), c0_s]) (by omega) (by omega) hd' hs' (by omega)
      rw [c0_x, show i + 1 + n = i + (n + 1) by omega] at hr
      rw [td_t N g4 gr_12_0 gn (nI_ge (at_lt e) (by omega)) ha hb g3 (by rw [hsub]; exact nI_ge h3' (by decide)) g2 (A1 := hp X (c0 C 2 (nI (dg3 tp p (i + 1)))) M T) (by rw [hval]; exact pi_12_2 _) (by rw [gi_12_4, c0_n (by decide), h4]) (A2 := hp X (c0 (c0 C 2 (nI (dg3 tp p (i + 1)))) 4 (nI (i + 1))) M T) (by rw [nI_1]; exact pi_12_4 _)]
      exact hr
    · have hv : dg3 tp p (i + 1) = dg3 tp p i := by
        unfold dg3
        rw [hts, List.take_append_of_le_length (by rw [hln]; omega)]
      have hr := ih (i + 1) m' (c0 C 4 (nI (i + 1))) (h.c0 (by decide)) c0_s (by rw [c0_n (by decide), h3]) (by rw [c0_n (by decide), h2, hv]) (by omega) (by omega) hd' hs' (by omega)
      rw [c0_y, show i + 1 + n = i + (n + 1) by omega] at hr
      rw [td_o N g4 gr_12_0 gn (nI_ge (at_lt e) (by omega)) ha hb g3 (by rw [hsub, ← nI_3]; exact nI_le (by omega) (by omega)) (A2 := hp X (c0 C 4 (nI (i + 1))) M T) (by rw [nI_1]; exact pi_12_4 _)]
      exact hr
end TKK
