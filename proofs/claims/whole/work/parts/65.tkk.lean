/-! the text taken apart: the class -/
section TKK
variable {X : XS} {C : CS} {M : MS} {T : TS} {tp : List Nat}
/-- the tape at hand -/
def TP (tp : List Nat) (C : CS) : Prop := RTape tp (C.1 0) (C.2.1 0) ∧ tp.length ≤ 600 ∧ ∀ x ∈ tp, x < 256
theorem TP.b {i c : Nat} (h : TP tp C) (hi : tp[i]? = some c) : c < 256 := h.2.2 c (List.mem_of_getElem? hi)
theorem TP.c0 {k : Nat} {v : Int32} (h : TP tp C) (hk : k ≠ 0) : TP tp (c0 C k v) := ⟨by
  show RTape tp (up C.1 k v 0) (C.2.1 0)
  rw [up_n _ _ (Ne.symm hk)]; exact h.1, h.2⟩
section TKA
variable {A A1 A2 A3 A4 : LH} {q x b : Option Nat} {n v w l s p : Int32}
theorem at_o (h0 : isO A q 6 = true) (h1 : ¬ v < 0) (h2 : gI A q 6 1 = some n) (h3 : n ≤ v) : f_X6_at A q v = some (-1) := by
  unfold f_X6_at b_X6_at
  (repeat (first | with_reducible rfl | refine (bnd_eq (by first | with_reducible assumption)).trans ?_ | refine (if_pos (by first | with_reducible assumption | with_reducible rfl | decide | (dsimp only; first | with_reducible assumption | with_reducible rfl | decide))).trans ?_ | refine (if_neg (by first | with_reducible assumption | decide | (dsimp only; first | with_reducible assumption | decide))).trans ?_))
theorem at_i (h0 : isO A q 6 = true) (h1 : ¬ v < 0) (h2 : gI A q 6 1 = some n) (h3 : ¬ n ≤ v) (h4 : gR A q 6 0 = some b) (h5 : ln6 A b = some l) (h6 : ¬ l ≤ v) (h7 : aI A b 0 v = some w) : f_X6_at A q v = some w := by
  unfold f_X6_at b_X6_at
  (repeat (first | with_reducible rfl | refine (bnd_eq (by first | with_reducible assumption)).trans ?_ | refine (if_pos (by first | with_reducible assumption | with_reducible rfl | decide | (dsimp only; first | with_reducible assumption | with_reducible rfl | decide))).trans ?_ | refine (if_neg (by first | with_reducible assumption | decide | (dsimp only; first | with_reducible assumption | decide))).trans ?_))
theorem tad_t {y u : Option Nat} {a : Int32} (h0 : isO A q 7 = true) (h1 : gI A q 7 4 = some n) (h2 : gR A q 7 1 = some x) (h3 : ln6 A x = some l) (h4 : f_X10_isIn n l = some 1) (h5 : sI A x 0 n v = some A1) (h6 : gR A1 q 7 2 = some y) (h7 : gI A1 q 7 4 = some n) (h8 : sI A1 y 0 n w = some A2) (h9 : gR A2 q 7 3 = some u) (h10 : gI A2 q 7 4 = some n) (h11 : sI A2 u 0 n a = some A3) (h12 : gI A3 q 7 4 = some n) (h13 : pF A3 q 7 4 (LI (n + 1)) = some A4) : f_X7_add A q v w a = some A4 := by
  unfold f_X7_add b_X7_add
  rw [if_pos h0, bnd_eq h1, bnd_eq h2, bnd_eq h3, bnd_eq h4, if_neg i1_ne, bnd_eq h2, bnd_eq h1, bnd_eq h5, bnd_eq h6, bnd_eq h7, bnd_eq h8, bnd_eq h9, bnd_eq h10, bnd_eq h11, bnd_eq h12, bnd_eq h13]
theorem tst_n (N : Nat) (h0 : isO A q 7 = true) (h1 : gI A q 7 5 = some v) (h2 : ¬ v < 0) (h3 : gI A q 7 4 = some n) (h4 : n ≤ v) : f_X7_step N A q = some A := by
  unfold f_X7_step b_X7_step
  rw [if_pos h0, bnd_eq h1, if_neg h2, bnd_eq h1, bnd_eq h3, if_pos h4]
theorem tst_t (N : Nat) {y u : Option Nat} {a c : Int32} (h0 : isO A q 7 = true) (h1 : gI A q 7 5 = some v) (h2 : ¬ v < 0) (h3 : gI A q 7 4 = some n) (h4 : ¬ n ≤ v) (h5 : gR A q 7 1 = some x) (h6 : ln6 A x = some l) (h7 : ¬ l ≤ v) (h8 : aI A x 0 v = some w) (h9 : pF A q 7 6 (LI w) = some A1) (h10 : gR A1 q 7 2 = some y) (h11 : gI A1 q 7 5 = some v) (h12 : aI A1 y 0 v = some a) (h13 : pF A1 q 7 7 (LI a) = some A2) (h14 : gR A2 q 7 3 = some u) (h15 : gI A2 q 7 5 = some v) (h16 : aI A2 u 0 v = some c) (h17 : pF A2 q 7 8 (LI c) = some A3) (h18 : gI A3 q 7 5 = some v) (h19 : pF A3 q 7 5 (LI (v + 1)) = some A4) : f_X7_step N A q = some A4 := by
  unfold f_X7_step b_X7_step
  rw [if_pos h0, bnd_eq h1, if_neg h2, bnd_eq h1, bnd_eq h3, if_neg h4, bnd_eq h1, bnd_eq h5, bnd_eq h6, if_neg h7, bnd_eq h5, bnd_eq h1, bnd_eq h8, bnd_eq h9, bnd_eq h10, bnd_eq h11, bnd_eq h12, bnd_eq h13, bnd_eq h14, bnd_eq h15, bnd_eq h16, bnd_eq h17, bnd_eq h18, bnd_eq h19]
theorem tl_e (N : Nat) {k : LH → Option Nat → Int32 → Int32 → Option (Int32 × LH)} (h2 : gR A q 7 0 = some x) (h3 : gI A x 6 1 = some n) (h4 : n ≤ v) : b_X7_addToken_20 N k A q p v = b_X7_addToken_51 N A q p v := by
  unfold b_X7_addToken_20
  rw [bnd_eq h2, bnd_eq h3, if_pos h4]
theorem tl_f (N : Nat) {k : LH → Option Nat → Int32 → Int32 → Option (Int32 × LH)} (h2 : gR A q 7 0 = some x) (h3 : gI A x 6 1 = some n) (h4 : ¬ n ≤ v) (h5 : f_X6_at A x v = some w) (h6 : f_X7_isLetter w = some 0) : b_X7_addToken_20 N k A q p v = b_X7_addToken_51 N A q p v := by
  unfold b_X7_addToken_20
  rw [bnd_eq h2, bnd_eq h3, if_neg h4, bnd_eq h2, bnd_eq h5, bnd_eq h6, if_pos rfl]
theorem tl_t (N : Nat) {k : LH → Option Nat → Int32 → Int32 → Option (Int32 × LH)} (h2 : gR A q 7 0 = some x) (h3 : gI A x 6 1 = some n) (h4 : ¬ n ≤ v) (h5 : f_X6_at A x v = some w) (h6 : f_X7_isLetter w = some 1) : b_X7_addToken_20 N k A q p v = k A q p (v + 1) := by
  unfold b_X7_addToken_20
  rw [bnd_eq h2, bnd_eq h3, if_neg h4, bnd_eq h2, bnd_eq h5, bnd_eq h6, if_neg i1_ne]
theorem td_e (N : Nat) {k : LH → Option Nat → Int32 → Int32 → Option (Int32 × LH)} (h2 : gR A q 7 0 = some x) (h3 : gI A x 6 1 = some n) (h4 : n ≤ v) : b_X7_addToken_73 N k A q p v = b_X7_addToken_104 N A q p v := by
  unfold b_X7_addToken_73
  rw [bnd_eq h2, bnd_eq h3, if_pos h4]
theorem td_f (N : Nat) {k : LH → Option Nat → Int32 → Int32 → Option (Int32 × LH)} (h2 : gR A q 7 0 = some x) (h3 : gI A x 6 1 = some n) (h4 : ¬ n ≤ v) (h5 : f_X6_at A x v = some w) (h6 : f_X7_isDigit w = some 0) : b_X7_addToken_73 N k A q p v = b_X7_addToken_104 N A q p v := by
  unfold b_X7_addToken_73
  rw [bnd_eq h2, bnd_eq h3, if_neg h4, bnd_eq h2, bnd_eq h5, bnd_eq h6, if_pos rfl]
theorem td_t (N : Nat) {k : LH → Option Nat → Int32 → Int32 → Option (Int32 × LH)} (h2 : gR A q 7 0 = some x) (h3 : gI A x 6 1 = some n) (h4 : ¬ n ≤ v) (h5 : f_X6_at A x v = some w) (h6 : f_X7_isDigit w = some 1) : b_X7_addToken_73 N k A q p v = k A q p (v + 1) := by
  unfold b_X7_addToken_73
  rw [bnd_eq h2, bnd_eq h3, if_neg h4, bnd_eq h2, bnd_eq h5, bnd_eq h6, if_neg i1_ne]
theorem tn_e (N : Nat) {k : LH → Option Nat → Int32 → Int32 → Int32 → Int32 → Option LH} {e : Int32} (h1 : e ≤ v) (h2 : f_X7_add A q 1 s p = some A1) : b_X7_addNumber_20 N k A q p e s v = some A1 := by
  unfold b_X7_addNumber_20
  rw [if_pos h1, bnd_eq h2]
theorem tn_t (N : Nat) {k : LH → Option Nat → Int32 → Int32 → Int32 → Int32 → Option LH} {e : Int32} (h1 : ¬ e ≤ v) (h2 : gR A q 7 0 = some x) (h3 : f_X6_at A x v = some w) : b_X7_addNumber_20 N k A q p e s v = k A q p e (((s * (10 : Int32)) + w) - (48 : Int32)) (v + 1) := by
  unfold b_X7_addNumber_20
  rw [if_neg h1, bnd_eq h2, bnd_eq h3]
theorem tnu_y (N : Nat) {e : Int32} (h0 : isO A q 7 = true) (h1 : e - p ≤ 3) (h2 : l_X7_addNumber_20 N N A q p e 0 p = some A1) : f_X7_addNumber N A q p e = some A1 := by
  unfold f_X7_addNumber b_X7_addNumber
  rw [if_pos h0, if_pos h1, h2]
theorem tnu_n (N : Nat) {e : Int32} (h0 : isO A q 7 = true) (h1 : ¬ e - p ≤ 3) (h2 : f_X7_add A q 2 0 p = some A1) : f_X7_addNumber N A q p e = some A1 := by
  unfold f_X7_addNumber b_X7_addNumber
  rw [if_pos h0, if_neg h1, bnd_eq h2]
theorem tat_l (N : Nat) (h0 : isO A q 7 = true) (h1 : gR A q 7 0 = some x) (h2 : f_X6_at A x v = some w) (h3 : f_X7_isLetter w = some 1) {r : Option (Int32 × LH)} (h4 : l_X7_addToken_20 N N A q v (v + 1) = r) : f_X7_addToken N A q v = r := by
  unfold f_X7_addToken b_X7_addToken
  rw [if_pos h0, bnd_eq h1, bnd_eq h2, bnd_eq h3, if_neg i1_ne, h4]
theorem tat_d (N : Nat) (h0 : isO A q 7 = true) (h1 : gR A q 7 0 = some x) (h2 : f_X6_at A x v = some w) (h3 : f_X7_isLetter w = some 0) (h4 : f_X7_isDigit w = some 1) {r : Option (Int32 × LH)} (h5 : l_X7_addToken_73 N N A q v (v + 1) = r) : f_X7_addToken N A q v = r := by
  unfold f_X7_addToken b_X7_addToken
  rw [if_pos h0, bnd_eq h1, bnd_eq h2, bnd_eq h3, if_pos rfl, bnd_eq h4, if_neg i1_ne, h5]
theorem tat_g (N : Nat) (h0 : isO A q 7 = true) (h1 : gR A q 7 0 = some x) (h2 : f_X6_at A x v = some w) (h3 : f_X7_isLetter w = some 0) (h4 : f_X7_isDigit w = some 0) (h5 : f_X7_isSign w = some 1) (h6 : f_X7_add A q w 0 v = some A1) : f_X7_addToken N A q v = some (v + 1, A1) := by
  unfold f_X7_addToken b_X7_addToken b_X7_addToken_126
  rw [if_pos h0, bnd_eq h1, bnd_eq h2, bnd_eq h3, if_pos rfl, bnd_eq h4, if_pos rfl, bnd_eq h5, if_neg i1_ne, bnd_eq h6]
theorem tat_w (N : Nat) (h0 : isO A q 7 = true) (h1 : gR A q 7 0 = some x) (h2 : f_X6_at A x v = some w) (h3 : f_X7_isLetter w = some 0) (h4 : f_X7_isDigit w = some 0) (h5 : f_X7_isSign w = some 0) (h6 : f_X7_add A q 2 0 v = some A1) : f_X7_addToken N A q v = some (v + 1, A1) := by
  unfold f_X7_addToken b_X7_addToken b_X7_addToken_126
  rw [if_pos h0, bnd_eq h1, bnd_eq h2, bnd_eq h3, if_pos rfl, bnd_eq h4, if_pos rfl, bnd_eq h5, if_pos rfl, bnd_eq h6]
theorem t51 (N : Nat) (h1 : f_X7_kindOfWord N A q p v = some w) (h2 : f_X7_add A q w 0 p = some A1) : b_X7_addToken_51 N A q p v = some (v, A1) := by
  unfold b_X7_addToken_51
  rw [bnd_eq h1, bnd_eq h2]
theorem t104 (N : Nat) (h1 : f_X7_addNumber N A q p v = some A1) : b_X7_addToken_104 N A q p v = some (v, A1) := by
  unfold b_X7_addToken_104
  rw [bnd_eq h1]
theorem tap_e (N : Nat) {k : LH → Option Nat → Int32 → Int32 → Option LH} {e : Int32} (h1 : gR A q 7 0 = some x) (h2 : gI A x 6 1 = some n) (h3 : n ≤ v) (h4 : f_X7_add A q 0 0 n = some A1) (h5 : pF A1 q 7 5 (LI 0) = some A2) (h6 : f_X7_step N A2 q = some A3) : b_X7_takeApart_9 N k A q e v = some A3 := by
  unfold b_X7_takeApart_9
  rw [bnd_eq h1, bnd_eq h2, if_pos h3, bnd_eq h1, bnd_eq h2, bnd_eq h4, bnd_eq h5, bnd_eq h6]
theorem tap_i (N : Nat) {k : LH → Option Nat → Int32 → Int32 → Option LH} {e : Int32} (h1 : gR A q 7 0 = some x) (h2 : gI A x 6 1 = some n) (h3 : ¬ n ≤ v) (h4 : v < e) : b_X7_takeApart_9 N k A q e v = k A q e (v + 1) := by
  unfold b_X7_takeApart_9
  rw [bnd_eq h1, bnd_eq h2, if_neg h3, if_pos h4]
theorem tap_b (N : Nat) {k : LH → Option Nat → Int32 → Int32 → Option LH} {e : Int32} (h1 : gR A q 7 0 = some x) (h2 : gI A x 6 1 = some n) (h3 : ¬ n ≤ v) (h4 : ¬ v < e) (h5 : f_X6_at A x v = some w) (h6 : f_X7_isBlank w = some 1) : b_X7_takeApart_9 N k A q e v = k A q e (v + 1) := by
  unfold b_X7_takeApart_9
  rw [bnd_eq h1, bnd_eq h2, if_neg h3, if_neg h4, bnd_eq h1, bnd_eq h5, bnd_eq h6, if_neg i1_ne]
theorem tap_t (N : Nat) {k : LH → Option Nat → Int32 → Int32 → Option LH} {e s : Int32} (h1 : gR A q 7 0 = some x) (h2 : gI A x 6 1 = some n) (h3 : ¬ n ≤ v) (h4 : ¬ v < e) (h5 : f_X6_at A x v = some w) (h6 : f_X7_isBlank w = some 0) (h7 : f_X7_addToken N A q v = some (s, A1)) : b_X7_takeApart_9 N k A q e v = k A1 q s (v + 1) := by
  unfold b_X7_takeApart_9
  rw [bnd_eq h1, bnd_eq h2, if_neg h3, if_neg h4, bnd_eq h1, bnd_eq h5, bnd_eq h6, if_pos rfl, bnd_eq h7]
end TKA
/-- the byte at a place -/
theorem k_at {i : Nat} (h : TP tp C) (hi : i < 2 ^ 31) : f_X6_at (hp X C M T) (some 9) (nI i) = some (sg tp i) := by
  obtain ⟨⟨h1, h2⟩, h3, h4⟩ := h
  cases e : tp[i]? with
  | none =>
    rw [sg_n e]
    have hl := List.getElem?_eq_none_iff.mp e
    exact at_o io_9 (nI_pos hi) (gi_9_1.trans (congrArg some h1)) (nI_le hl hi)
  | some c =>
    rw [sg_s e]
    have hl := at_lt e
    exact at_i io_9 (nI_pos hi) (gi_9_1.trans (congrArg some h1)) (nI_ge hl (by omega)) gr_9_0 ln_10 (nI_ge (by omega) (by decide)) ((ai_10 (by omega)).trans (congrArg some (h2 i c e)))
theorem c0_s {k : Nat} {v : Int32} : (c0 C k v).1 k = v := by rw [c0_1, up_s]
theorem c0_n {k j : Nat} {v : Int32} (h : j ≠ k) : (c0 C k v).1 j = C.1 j := by rw [c0_1, up_n _ _ h]
theorem c0_self {k : Nat} {v : Int32} (h : C.1 k = v) : c0 C k v = C := by
  unfold c0
  have : up C.1 k v = C.1 := by
    funext j
    by_cases hj : j = k
    · rw [hj, up_s, h]
    · rw [up_n _ _ hj]
  rw [this]
theorem c0_sw {k j : Nat} {v w : Int32} (h : j ≠ k) : c0 (c0 C k v) j w = c0 (c0 C j w) k v := by
  unfold c0
  have : up (up C.1 k v) j w = up (up C.1 j w) k v := by
    funext i
    by_cases h1 : i = j
    · rw [h1, up_s, up_n _ _ h, up_s]
    · rw [up_n _ _ h1]
      by_cases h2 : i = k
      · rw [h2, up_s, up_s]
      · rw [up_n _ _ h2, up_n _ _ h2, up_n _ _ h1]
  show (up (up C.1 k v) j w, C.2) = (up (up C.1 j w) k v, C.2)
  rw [this]
theorem k_letters (N : Nat) {p : Int32} (h : TP tp C) : ∀ (n i m : Nat), i ≤ tp.length → spn lL tp i = n → n < m → l_X7_addToken_20 N m (hp X C M T) (some 12) p (nI i) = b_X7_addToken_51 N (hp X C M T) (some 12) p (nI (i + n)) := by
  have h6 := h.2.1
  have gn : gI (hp X C M T) (some 9) 6 1 = some (nI tp.length) := gi_9_1.trans (congrArg some h.1.1)
  intro n
  induction n with
  | zero =>
    intro i m hl hs hm
    obtain ⟨m', rfl⟩ : ∃ m', m = m' + 1 := ⟨m - 1, by omega⟩
    show b_X7_addToken_20 N _ _ _ _ _ = b_X7_addToken_51 N _ _ _ (nI i)
    rcases spn_0 hs with e | ⟨c, e, hc⟩
    · exact tl_e N gr_12_0 gn (nI_le (List.getElem?_eq_none_iff.mp e) (by omega))
    · have ha := k_at (X := X) (M := M) (T := T) h (i := i) (by omega)
      rw [sg_s e] at ha
      have hb := isLt (h.b e)
      rw [hc] at hb
      exact tl_f N gr_12_0 gn (nI_ge (at_lt e) (by omega)) ha hb
  | succ n ih =>
    intro i m hl hs hm
    obtain ⟨m', rfl⟩ : ∃ m', m = m' + 1 := ⟨m - 1, by omega⟩
    obtain ⟨c, e, hc, hs'⟩ := spn_1 hs
    have ha := k_at (X := X) (M := M) (T := T) h (i := i) (by omega)
    rw [sg_s e] at ha
    have hb := isLt (h.b e)
    rw [hc] at hb
    have hlt := at_lt e
    have hr := ih (i + 1) m' (by omega) hs' (by omega)
    show b_X7_addToken_20 N _ _ _ _ _ = _
    rw [tl_t N gr_12_0 gn (nI_ge (at_lt e) (by omega)) ha hb, nI_1, hr, show i + 1 + n = i + (n + 1) by omega]
theorem k_digits (N : Nat) {p : Int32} (h : TP tp C) : ∀ (n i m : Nat), i ≤ tp.length → spn dL tp i = n → n < m → l_X7_addToken_73 N m (hp X C M T) (some 12) p (nI i) = b_X7_addToken_104 N (hp X C M T) (some 12) p (nI (i + n)) := by
  have h6 := h.2.1
  have gn : gI (hp X C M T) (some 9) 6 1 = some (nI tp.length) := gi_9_1.trans (congrArg some h.1.1)
  intro n
  induction n with
  | zero =>
    intro i m hl hs hm
    obtain ⟨m', rfl⟩ : ∃ m', m = m' + 1 := ⟨m - 1, by omega⟩
    show b_X7_addToken_73 N _ _ _ _ _ = b_X7_addToken_104 N _ _ _ (nI i)
    rcases spn_0 hs with e | ⟨c, e, hc⟩
    · exact td_e N gr_12_0 gn (nI_le (List.getElem?_eq_none_iff.mp e) (by omega))
    · have ha := k_at (X := X) (M := M) (T := T) h (i := i) (by omega)
      rw [sg_s e] at ha
      have hb := isDg (h.b e)
      rw [hc] at hb
      exact td_f N gr_12_0 gn (nI_ge (at_lt e) (by omega)) ha hb
  | succ n ih =>
    intro i m hl hs hm
    obtain ⟨m', rfl⟩ : ∃ m', m = m' + 1 := ⟨m - 1, by omega⟩
    obtain ⟨c, e, hc, hs'⟩ := spn_1 hs
    have ha := k_at (X := X) (M := M) (T := T) h (i := i) (by omega)
    rw [sg_s e] at ha
    have hb := isDg (h.b e)
    rw [hc] at hb
    have hlt := at_lt e
    have hr := ih (i + 1) m' (by omega) hs' (by omega)
    show b_X7_addToken_73 N _ _ _ _ _ = _
    rw [td_t N gr_12_0 gn (nI_ge (at_lt e) (by omega)) ha hb, nI_1, hr, show i + 1 + n = i + (n + 1) by omega]
theorem dv_ (l : List Nat) (c : Nat) : dVal (l ++ [c]) = dVal l * 10 + (c - 48) := by unfold dVal; rw [List.foldl_append]; rfl
theorem dv_l2 : ∀ (l : List Nat) (a : Nat), (∀ c ∈ l, dL c = true) → l.foldl (fun a c => a * 10 + (c - 48)) a < (a + 1) * 10 ^ l.length := by
  intro l
  induction l with
  | nil => intro a _; show a < (a + 1) * 1; omega
  | cons c l ih =>
    intro a h
    have h1 := ih (a * 10 + (c - 48)) (fun x hx => h x (List.mem_cons_of_mem _ hx))
    have h3 := of_decide_eq_true (show decide (48 ≤ c ∧ c ≤ 57) = true from h c List.mem_cons_self)
    rw [List.foldl_cons, List.length_cons, Nat.pow_succ]
    refine Nat.lt_of_lt_of_le h1 ?_
    rw [Nat.mul_comm (10 ^ l.length) 10, ← Nat.mul_assoc]
    exact Nat.mul_le_mul_right _ (by omega)
theorem dv_lt (l : List Nat) (h : ∀ c ∈ l, dL c = true) : dVal l < 10 ^ l.length := by
  have := dv_l2 l 0 h
  rw [Nat.zero_add, Nat.one_mul] at this
  exact this
theorem nI_sub' {a b : Nat} (h : b ≤ a) : nI a - nI b = nI (a - b) := by
  have : nI (a - b) + nI b = nI a := by rw [nI_add, Nat.sub_add_cancel h]
  rw [← this, Int32.add_sub_cancel]
theorem nI_ml (a b : Nat) : nI a * nI b = nI (a * b) := (Int32.ofNat_mul a b).symm
/-- the digits from p on, as far as i -/
def dg3 (tp : List Nat) (p i : Nat) : Nat := dVal (((tp.drop p).take (i - p)).take 3)
theorem tk_s {i p c : Nat} (hp : p ≤ i) (h : tp[i]? = some c) : (tp.drop p).take (i + 1 - p) = (tp.drop p).take (i - p) ++ [c] := by
  rw [show i + 1 - p = (i - p) + 1 by omega, List.take_add_one, List.getElem?_drop, show p + (i - p) = i by omega, h]; rfl
/-- the number's worth -/
theorem k_num (N : Nat) {p e : Nat} {B : LH} (h : TP tp C) (he : e ≤ tp.length) (h3 : e ≤ p + 3) (hd : ∀ j c, p ≤ j → j < e → tp[j]? = some c → dL c = true) (hB : f_X7_add (hp X C M T) (some 12) 1 (nI (dg3 tp p e)) (nI p) = some B) : ∀ (n i m : Nat), p ≤ i → i + n = e → n < m → l_X7_addNumber_20 N m (hp X C M T) (some 12) (nI p) (nI e) (nI (dg3 tp p i)) (nI i) = some B := by
  have h6 := h.2.1
  intro n
  induction n with
  | zero =>
    intro i m hpi hie hm
    obtain ⟨m', rfl⟩ : ∃ m', m = m' + 1 := ⟨m - 1, by omega⟩
    have hie : i = e := hie
    subst hie
    show b_X7_addNumber_20 N _ _ _ _ _ _ _ = _
    exact tn_e N (nI_le (Nat.le_refl _) (by omega)) hB
  | succ n ih =>
    intro i m hpi hie hm
    obtain ⟨m', rfl⟩ : ∃ m', m = m' + 1 := ⟨m - 1, by omega⟩
    obtain ⟨c, e1⟩ := at_ex tp (show i < tp.length by omega)
    have hc := hd i c hpi (by omega) e1
    have ha := k_at (X := X) (M := M) (T := T) h (i := i) (by omega)
    rw [sg_s e1] at ha
    have hts := tk_s hpi e1
    have hln : ((tp.drop p).take (i - p)).length = i - p := by rw [List.length_take, List.length_drop]; omega
    have hv : dg3 tp p (i + 1) = dg3 tp p i * 10 + (c - 48) := by
      unfold dg3
      rw [hts, List.take_of_length_le (by rw [List.length_append, hln, List.length_singleton]; omega), List.take_of_length_le (l := (tp.drop p).take (i - p)) (by rw [hln]; omega), dv_]
    have hcv := of_decide_eq_true (show decide (48 ≤ c ∧ c ≤ 57) = true from hc)
    have hval : nI (dg3 tp p i) * (10 : Int32) + nI c - (48 : Int32) = nI (dg3 tp p (i + 1)) := by
      rw [hv, show (10 : Int32) = nI 10 by decide, show (48 : Int32) = nI 48 by decide, nI_ml, nI_add, nI_sub' (by omega), show dg3 tp p i * 10 + c - 48 = dg3 tp p i * 10 + (c - 48) by omega]
    have hr := ih (i + 1) m' (by omega) (by omega) (by omega)
    show b_X7_addNumber_20 N _ _ _ _ _ _ _ = _
    rw [tn_t N (nI_ge (by omega) (by omega)) gr_12_0 ha, hval, nI_1]
    exact hr
end TKK
