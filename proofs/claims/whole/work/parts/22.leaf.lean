/-! leaves: what small methods answer -/
theorem i1_ne : ¬ (1 : Int32) = 0 := by decide
theorem zd_0 : zd (some 0) = some 0 := rfl
theorem zd_1 : zd (some 1) = some 1 := rfl
theorem zc_0 (A : LH) : zc (some (0, A)) = some (0, A) := rfl
theorem zc_1 (A : LH) : zc (some (1, A)) = some (1, A) := rfl
theorem isIn_t {a b : Int32} (h0 : ¬ a < 0) (h1 : ¬ b ≤ a) : f_X10_isIn a b = some 1 := by
  simp only [f_X10_isIn, b_X10_isIn, h0, h1, if_false, zd_1]
theorem isIn_f {a b : Int32} (h : a < 0 ∨ b ≤ a) : f_X10_isIn a b = some 0 := by
  unfold f_X10_isIn b_X10_isIn
  by_cases h0 : a < 0
  · simp only [h0, if_true, zd_0]
  · simp only [h0, if_false, h.resolve_left h0, if_true, zd_0]
theorem isIn_n {k n : Nat} (h : k < n) (hn : n < 2 ^ 31) : f_X10_isIn (nI k) (nI n) = some 1 := isIn_t (nI_pos (by omega)) (nI_ge h hn)
theorem upTo_t {a b : Int32} (h0 : ¬ a < 0) (h1 : ¬ b < a) : f_X10_isUpTo a b = some 1 := by
  simp only [f_X10_isUpTo, b_X10_isUpTo, h0, h1, if_false, zd_1]
theorem upTo_f {a b : Int32} (h : a < 0 ∨ b < a) : f_X10_isUpTo a b = some 0 := by
  unfold f_X10_isUpTo b_X10_isUpTo
  by_cases h0 : a < 0
  · simp only [h0, if_true, zd_0]
  · simp only [h0, if_false, h.resolve_left h0, if_true, zd_0]
theorem min_t {a b c : Int32} (h0 : ¬ a < b) (h1 : ¬ c < a) : f_X11_in a b c = some 1 := by
  simp only [f_X11_in, b_X11_in, h0, h1, if_false, zd_1]
theorem min_f {a b c : Int32} (h : a < b ∨ c < a) : f_X11_in a b c = some 0 := by
  unfold f_X11_in b_X11_in
  by_cases h0 : a < b
  · simp only [h0, if_true, zd_0]
  · simp only [h0, if_false, h.resolve_left h0, if_true, zd_0]
/-- an int is a Nat below n, or not -/
theorem i_cases (x : Int32) (n : Nat) (hn : n < 2 ^ 31) : (∃ j, j < n ∧ x = nI j) ∨ (x < 0 ∨ nI n ≤ x) := by
  rcases pk_ix x hn with h | h | h
  · exact Or.inr (Or.inl h)
  · exact Or.inr (Or.inr h)
  · exact Or.inl h
/-- a Table in a heap -/
def TB (A : LH) (q cols lim tl cq sz : Nat) (f : Nat → Int32) : Prop := isO A (some q) 5 = true ∧ gI A (some q) 5 0 = some (nI cols) ∧ gI A (some q) 5 1 = some (nI lim) ∧ gR A (some q) 5 2 = some (some cq) ∧ gI A (some q) 5 3 = some (nI sz) ∧ gc A cq = .inl (0, tl, .inl f)
section TBS
variable {A : LH} {q cols lim tl cq sz : Nat} {f : Nat → Int32}
theorem tb_has_t (h : TB A q cols lim tl cq sz f) {k : Nat} (hk : k < sz) (hs : sz < 2 ^ 31) : f_X5_has A (some q) (nI k) = some 1 := by
  obtain ⟨h1, h2, h3, h4, h5, h6⟩ := h
  simp only [f_X5_has, b_X5_has, h1, h5, if_true, Option.bind_some, isIn_n hk hs, zd_1]
theorem tb_has_f (h : TB A q cols lim tl cq sz f) {i : Int32} (hk : i < 0 ∨ nI sz ≤ i) : f_X5_has A (some q) i = some 0 := by
  obtain ⟨h1, h2, h3, h4, h5, h6⟩ := h
  simp only [f_X5_has, b_X5_has, h1, h5, if_true, Option.bind_some, isIn_f hk, zd_0]
theorem tb_ix {k cols lim j : Nat} (hk : k < lim) (hj : j < cols) : k * cols + j < cols * lim := by
  have h1 : k * cols + cols ≤ lim * cols := by
    have := Nat.mul_le_mul_right cols (Nat.succ_le_of_lt hk)
    rw [Nat.succ_mul] at this
    exact this
  rw [Nat.mul_comm cols lim]
  omega
theorem tb_get (h : TB A q cols lim tl cq sz f) {k j : Nat} (hk : k < sz) (hs : sz ≤ lim) (hj : j < cols) (hl : cols * lim = tl) (hb : tl < 2 ^ 31) (hb2 : lim < 2 ^ 31) (hb3 : cols < 2 ^ 31) : f_X5_get A (some q) (nI k) (nI j) = some (f (k * cols + j)) := by
  have h' := h
  obtain ⟨h1, h2, h3, h4, h5, h6⟩ := h
  have hix := tb_ix (lim := lim) (show k < lim by omega) hj
  rw [hl] at hix
  simp only [f_X5_get, b_X5_get, h1, h2, h4, if_true, Option.bind_some, tb_has_t h' hk (by omega), i1_ne, if_false, isIn_n hj hb3, pk_mul, nI_add, aI_at h6 hix hb]
theorem tb_get_f (h : TB A q cols lim tl cq sz f) {i j : Int32} (hk : i < 0 ∨ nI sz ≤ i) : f_X5_get A (some q) i j = some (-1) := by
  have h' := h
  obtain ⟨h1, h2, h3, h4, h5, h6⟩ := h
  simp only [f_X5_get, b_X5_get, h1, if_true, Option.bind_some, tb_has_f h' hk]
theorem tb_get_f2 (h : TB A q cols lim tl cq sz f) {k : Nat} {j : Int32} (hk : k < sz) (hs : sz < 2 ^ 31) (hj : j < 0 ∨ nI cols ≤ j) : f_X5_get A (some q) (nI k) j = some (-1) := by
  have h' := h
  obtain ⟨h1, h2, h3, h4, h5, h6⟩ := h
  simp only [f_X5_get, b_X5_get, h1, h2, if_true, Option.bind_some, tb_has_t h' hk hs, i1_ne, if_false, isIn_f hj]
theorem tb_set (h : TB A q cols lim tl cq sz f) {k j : Nat} {x : Int32} (hk : k < sz) (hs : sz ≤ lim) (hj : j < cols) (hl : cols * lim = tl) (hb : tl < 2 ^ 31) (hb2 : lim < 2 ^ 31) (hb3 : cols < 2 ^ 31) (h8 : 8 ≤ cq) : f_X5_set A (some q) (nI k) (nI j) x = some (sc A cq (.inl (0, tl, .inl (upd f (k * cols + j) x)))) := by
  have h' := h
  obtain ⟨h1, h2, h3, h4, h5, h6⟩ := h
  have hix := tb_ix (lim := lim) (show k < lim by omega) hj
  rw [hl] at hix
  simp only [f_X5_set, b_X5_set, h1, h2, h4, if_true, Option.bind_some, tb_has_t h' hk (by omega), i1_ne, if_false, isIn_n hj hb3, pk_mul, nI_add, sI_at h6 hix hb h8]
theorem tb_set_f (h : TB A q cols lim tl cq sz f) {i j x : Int32} (hk : i < 0 ∨ nI sz ≤ i) : f_X5_set A (some q) i j x = some A := by
  have h' := h
  obtain ⟨h1, h2, h3, h4, h5, h6⟩ := h
  simp only [f_X5_set, b_X5_set, h1, if_true, Option.bind_some, tb_has_f h' hk]
end TBS
section HPT
variable {X : XS} {C : CS} {M : MS} {T : TS}
theorem tb_p {n : Nat} (h : C.1 9 = nI n) : TB (hp X C M T) 19 2 16 32 20 n (C.2.1 2) := ⟨rfl, rfl, rfl, rfl, by rw [gi_19_3, h], rfl⟩
theorem tb_t {n : Nat} (h : C.1 10 = nI n) : TB (hp X C M T) 21 3 16 48 22 n (C.2.1 3) := ⟨rfl, rfl, rfl, rfl, by rw [gi_21_3, h], rfl⟩
theorem tb_a {n : Nat} (h : C.1 11 = nI n) : TB (hp X C M T) 23 5 200 1000 24 n (C.2.1 4) := ⟨rfl, rfl, rfl, rfl, by rw [gi_23_3, h], rfl⟩
theorem pp_get {n k j : Nat} (h : C.1 9 = nI n) (hk : k < n) (hn : n ≤ 16) (hj : j < 2) : f_X5_get (hp X C M T) (some 19) (nI k) (nI j) = some (C.2.1 2 (k * 2 + j)) := tb_get (tb_p h) hk hn hj rfl (by decide) (by decide) (by decide)
theorem th_get {n k j : Nat} (h : C.1 10 = nI n) (hk : k < n) (hn : n ≤ 16) (hj : j < 3) : f_X5_get (hp X C M T) (some 21) (nI k) (nI j) = some (C.2.1 3 (k * 3 + j)) := tb_get (tb_t h) hk hn hj rfl (by decide) (by decide) (by decide)
theorem as_get {n k j : Nat} (h : C.1 11 = nI n) (hk : k < n) (hn : n ≤ 200) (hj : j < 5) : f_X5_get (hp X C M T) (some 23) (nI k) (nI j) = some (C.2.1 4 (k * 5 + j)) := tb_get (tb_a h) hk hn hj rfl (by decide) (by decide) (by decide)
theorem pp_set {n k j : Nat} {x : Int32} (h : C.1 9 = nI n) (hk : k < n) (hn : n ≤ 16) (hj : j < 2) : f_X5_set (hp X C M T) (some 19) (nI k) (nI j) x = some (hp X (ca C 2 (upd (C.2.1 2) (k * 2 + j) x)) M T) := tb_set (tb_p h) hk hn hj rfl (by decide) (by decide) (by decide) (by decide)
theorem th_set {n k j : Nat} {x : Int32} (h : C.1 10 = nI n) (hk : k < n) (hn : n ≤ 16) (hj : j < 3) : f_X5_set (hp X C M T) (some 21) (nI k) (nI j) x = some (hp X (ca C 3 (upd (C.2.1 3) (k * 3 + j) x)) M T) := tb_set (tb_t h) hk hn hj rfl (by decide) (by decide) (by decide) (by decide)
theorem as_set {n k j : Nat} {x : Int32} (h : C.1 11 = nI n) (hk : k < n) (hn : n ≤ 200) (hj : j < 5) : f_X5_set (hp X C M T) (some 23) (nI k) (nI j) x = some (hp X (ca C 4 (upd (C.2.1 4) (k * 5 + j) x)) M T) := tb_set (tb_a h) hk hn hj rfl (by decide) (by decide) (by decide) (by decide)
theorem nI_16 : nI 16 = 16 := by decide
theorem nI_200 : nI 200 = 200 := by decide
theorem pp_add {n : Nat} (h : C.1 9 = nI n) (hn : n < 16) : f_X5_addRow (hp X C M T) (some 19) = some (nI n, hp X (c0 C 9 (nI (n + 1))) M T) := by
  simp only [f_X5_addRow, b_X5_addRow, io_19, gi_19_1, gi_19_3, pi_19_3, if_true, Option.bind_some, h, ← nI_16, nI_lt hn (by decide), nI_1, c0_1, up_s, nI_pred]
theorem th_add {n : Nat} (h : C.1 10 = nI n) (hn : n < 16) : f_X5_addRow (hp X C M T) (some 21) = some (nI n, hp X (c0 C 10 (nI (n + 1))) M T) := by
  simp only [f_X5_addRow, b_X5_addRow, io_21, gi_21_1, gi_21_3, pi_21_3, if_true, Option.bind_some, h, ← nI_16, nI_lt hn (by decide), nI_1, c0_1, up_s, nI_pred]
theorem as_add {n : Nat} (h : C.1 11 = nI n) (hn : n < 200) : f_X5_addRow (hp X C M T) (some 23) = some (nI n, hp X (c0 C 11 (nI (n + 1))) M T) := by
  simp only [f_X5_addRow, b_X5_addRow, io_23, gi_23_1, gi_23_3, pi_23_3, if_true, Option.bind_some, h, ← nI_200, nI_lt hn (by decide), nI_1, c0_1, up_s, nI_pred]
theorem pp_add_f {n : Nat} (h : C.1 9 = nI n) (hn : n = 16) : f_X5_addRow (hp X C M T) (some 19) = some (-1, hp X C M T) := by
  subst hn
  simp only [f_X5_addRow, b_X5_addRow, io_19, gi_19_1, gi_19_3, if_true, Option.bind_some, h, ← nI_16, nI_nlt (Nat.le_refl 16) (by decide), if_false]
theorem th_add_f {n : Nat} (h : C.1 10 = nI n) (hn : n = 16) : f_X5_addRow (hp X C M T) (some 21) = some (-1, hp X C M T) := by
  subst hn
  simp only [f_X5_addRow, b_X5_addRow, io_21, gi_21_1, gi_21_3, if_true, Option.bind_some, h, ← nI_16, nI_nlt (Nat.le_refl 16) (by decide), if_false]
theorem as_add_f {n : Nat} (h : C.1 11 = nI n) (hn : n = 200) : f_X5_addRow (hp X C M T) (some 23) = some (-1, hp X C M T) := by
  subst hn
  simp only [f_X5_addRow, b_X5_addRow, io_23, gi_23_1, gi_23_3, if_true, Option.bind_some, h, ← nI_200, nI_nlt (Nat.le_refl 200) (by decide), if_false]
theorem m1_neg : (-1 : Int32) < 0 := by decide
end HPT
