/-! the law: one turn -/
section LAW
section LAWA
variable {A A1 A2 : LH} {v0 v1 v2 : Option Nat} {N : Nat} {v3 L x r a b c d e f : Int32} {k18 : LH → Option Nat → Option Nat → Option Nat → Int32 → Option (Int32 × LH)}
theorem lw_0 (h0 : ln6 A v0 = some L) (h1 : ¬ L - 7 < v3) (h2 : aI A v0 0 v3 = some x) (hy : x &&& 31 = 0) (ha1 : aI A v0 0 (v3 + 1) = some a) (ha2 : aI A v0 0 (v3 + 2) = some b) (ha3 : aI A v0 0 (v3 + 3) = some c) (ha4 : aI A v0 0 (v3 + 4) = some d) (ha5 : aI A v0 0 (v3 + 5) = some e) (hf : f_X10_feed N A v1 a b c d e = some (r, A1)) (hb1 : aI A1 v0 0 (v3 + 1) = some a) (hb2 : aI A1 v0 0 (v3 + 2) = some b) (hb3 : aI A1 v0 0 (v3 + 3) = some c) (hb4 : aI A1 v0 0 (v3 + 4) = some d) (hb5 : aI A1 v0 0 (v3 + 5) = some e) (hg : f_X11_feed N A1 v2 a b c d e = some (r, A2)) : b_L_law_18 N k18 A v0 v1 v2 v3 = k18 A2 v0 v1 v2 (v3 + 7) := by
  unfold b_L_law_18
  refine (bnd_eq h0).trans ((if_neg h1).trans ((bnd_eq h2).trans ?_))
  refine (if_pos hy).trans ?_
  refine (bnd_eq ha1).trans ?_
  refine (bnd_eq ha2).trans ?_
  refine (bnd_eq ha3).trans ?_
  refine (bnd_eq ha4).trans ?_
  refine (bnd_eq ha5).trans ?_
  refine (bnd_eq hf).trans ?_
  refine (bnd_eq hb1).trans ?_
  refine (bnd_eq hb2).trans ?_
  refine (bnd_eq hb3).trans ?_
  refine (bnd_eq hb4).trans ?_
  refine (bnd_eq hb5).trans ?_
  refine (bnd_eq hg).trans ?_
  exact if_pos rfl
theorem lw_1 (h0 : ln6 A v0 = some L) (h1 : ¬ L - 7 < v3) (h2 : aI A v0 0 v3 = some x) (hy : x &&& 31 = 1) (ha1 : aI A v0 0 (v3 + 1) = some a) (hf : f_X10_end A v1 a = some (r, A1)) (hb1 : aI A1 v0 0 (v3 + 1) = some a) (hg : f_X11_end A1 v2 a = some (r, A2)) : b_L_law_18 N k18 A v0 v1 v2 v3 = k18 A2 v0 v1 v2 (v3 + 7) := by
  unfold b_L_law_18
  refine (bnd_eq h0).trans ((if_neg h1).trans ((bnd_eq h2).trans ?_))
  refine (if_neg (by rw [hy]; decide)).trans ?_
  refine (if_pos hy).trans ?_
  refine (bnd_eq ha1).trans ?_
  refine (bnd_eq hf).trans ?_
  refine (bnd_eq hb1).trans ?_
  refine (bnd_eq hg).trans ?_
  exact if_pos rfl
theorem lw_2 (h0 : ln6 A v0 = some L) (h1 : ¬ L - 7 < v3) (h2 : aI A v0 0 v3 = some x) (hy : x &&& 31 = 2) (ha1 : aI A v0 0 (v3 + 1) = some a) (hf : f_X10_rules N A v1 a = some (r, A1)) (hb1 : aI A1 v0 0 (v3 + 1) = some a) (hg : f_X11_rules N A1 v2 a = some (r, A2)) : b_L_law_18 N k18 A v0 v1 v2 v3 = k18 A2 v0 v1 v2 (v3 + 7) := by
  unfold b_L_law_18
  refine (bnd_eq h0).trans ((if_neg h1).trans ((bnd_eq h2).trans ?_))
  refine (if_neg (by rw [hy]; decide)).trans ?_
  refine (if_neg (by rw [hy]; decide)).trans ?_
  refine (if_pos hy).trans ?_
  refine (bnd_eq ha1).trans ?_
  refine (bnd_eq hf).trans ?_
  refine (bnd_eq hb1).trans ?_
  refine (bnd_eq hg).trans ?_
  exact if_pos rfl
theorem lw_3 (h0 : ln6 A v0 = some L) (h1 : ¬ L - 7 < v3) (h2 : aI A v0 0 v3 = some x) (hy : x &&& 31 = 3) (ha1 : aI A v0 0 (v3 + 1) = some a) (hf : f_X10_fault A v1 a = some r) (hg : f_X11_fault A v2 a = some (r, A2)) : b_L_law_18 N k18 A v0 v1 v2 v3 = k18 A2 v0 v1 v2 (v3 + 7) := by
  unfold b_L_law_18
  refine (bnd_eq h0).trans ((if_neg h1).trans ((bnd_eq h2).trans ?_))
  refine (if_neg (by rw [hy]; decide)).trans ?_
  refine (if_neg (by rw [hy]; decide)).trans ?_
  refine (if_neg (by rw [hy]; decide)).trans ?_
  refine (if_pos hy).trans ?_
  refine (bnd_eq ha1).trans ?_
  refine (bnd_eq hf).trans ?_
  refine (bnd_eq ha1).trans ?_
  refine (bnd_eq hg).trans ?_
  exact if_pos rfl
theorem lw_4 (h0 : ln6 A v0 = some L) (h1 : ¬ L - 7 < v3) (h2 : aI A v0 0 v3 = some x) (hy : x &&& 31 = 4) (ha1 : aI A v0 0 (v3 + 1) = some a) (ha2 : aI A v0 0 (v3 + 2) = some b) (hf : f_X10_person A v1 a b = some (r, A1)) (hb1 : aI A1 v0 0 (v3 + 1) = some a) (hb2 : aI A1 v0 0 (v3 + 2) = some b) (hg : f_X11_person A1 v2 a b = some (r, A2)) : b_L_law_18 N k18 A v0 v1 v2 v3 = k18 A2 v0 v1 v2 (v3 + 7) := by
  unfold b_L_law_18
  refine (bnd_eq h0).trans ((if_neg h1).trans ((bnd_eq h2).trans ?_))
  refine (if_neg (by rw [hy]; decide)).trans ?_
  refine (if_neg (by rw [hy]; decide)).trans ?_
  refine (if_neg (by rw [hy]; decide)).trans ?_
  refine (if_neg (by rw [hy]; decide)).trans ?_
  refine (if_pos hy).trans ?_
  refine (bnd_eq ha1).trans ?_
  refine (bnd_eq ha2).trans ?_
  refine (bnd_eq hf).trans ?_
  refine (bnd_eq hb1).trans ?_
  refine (bnd_eq hb2).trans ?_
  refine (bnd_eq hg).trans ?_
  exact if_pos rfl
theorem lw_5 (h0 : ln6 A v0 = some L) (h1 : ¬ L - 7 < v3) (h2 : aI A v0 0 v3 = some x) (hy : x &&& 31 = 5) (ha1 : aI A v0 0 (v3 + 1) = some a) (ha2 : aI A v0 0 (v3 + 2) = some b) (ha3 : aI A v0 0 (v3 + 3) = some c) (hf : f_X10_thing A v1 a b c = some (r, A1)) (hb1 : aI A1 v0 0 (v3 + 1) = some a) (hb2 : aI A1 v0 0 (v3 + 2) = some b) (hb3 : aI A1 v0 0 (v3 + 3) = some c) (hg : f_X11_thing A1 v2 a b c = some (r, A2)) : b_L_law_18 N k18 A v0 v1 v2 v3 = k18 A2 v0 v1 v2 (v3 + 7) := by
  unfold b_L_law_18
  refine (bnd_eq h0).trans ((if_neg h1).trans ((bnd_eq h2).trans ?_))
  refine (if_neg (by rw [hy]; decide)).trans ?_
  refine (if_neg (by rw [hy]; decide)).trans ?_
  refine (if_neg (by rw [hy]; decide)).trans ?_
  refine (if_neg (by rw [hy]; decide)).trans ?_
  refine (if_neg (by rw [hy]; decide)).trans ?_
  refine (if_pos hy).trans ?_
  refine (bnd_eq ha1).trans ?_
  refine (bnd_eq ha2).trans ?_
  refine (bnd_eq ha3).trans ?_
  refine (bnd_eq hf).trans ?_
  refine (bnd_eq hb1).trans ?_
  refine (bnd_eq hb2).trans ?_
  refine (bnd_eq hb3).trans ?_
  refine (bnd_eq hg).trans ?_
  exact if_pos rfl
theorem lw_6 (h0 : ln6 A v0 = some L) (h1 : ¬ L - 7 < v3) (h2 : aI A v0 0 v3 = some x) (hy : x &&& 31 = 6) (ha1 : aI A v0 0 (v3 + 1) = some a) (ha2 : aI A v0 0 (v3 + 2) = some b) (ha3 : aI A v0 0 (v3 + 3) = some c) (hf : f_X10_moves A v1 a b c = some (r, A1)) (hb1 : aI A1 v0 0 (v3 + 1) = some a) (hb2 : aI A1 v0 0 (v3 + 2) = some b) (hb3 : aI A1 v0 0 (v3 + 3) = some c) (hg : f_X11_moves A1 v2 a b c = some (r, A2)) : b_L_law_18 N k18 A v0 v1 v2 v3 = k18 A2 v0 v1 v2 (v3 + 7) := by
  unfold b_L_law_18
  refine (bnd_eq h0).trans ((if_neg h1).trans ((bnd_eq h2).trans ?_))
  refine (if_neg (by rw [hy]; decide)).trans ?_
  refine (if_neg (by rw [hy]; decide)).trans ?_
  refine (if_neg (by rw [hy]; decide)).trans ?_
  refine (if_neg (by rw [hy]; decide)).trans ?_
  refine (if_neg (by rw [hy]; decide)).trans ?_
  refine (if_neg (by rw [hy]; decide)).trans ?_
  refine (if_pos hy).trans ?_
  refine (bnd_eq ha1).trans ?_
  refine (bnd_eq ha2).trans ?_
  refine (bnd_eq ha3).trans ?_
  refine (bnd_eq hf).trans ?_
  refine (bnd_eq hb1).trans ?_
  refine (bnd_eq hb2).trans ?_
  refine (bnd_eq hb3).trans ?_
  refine (bnd_eq hg).trans ?_
  exact if_pos rfl
theorem lw_7 (h0 : ln6 A v0 = some L) (h1 : ¬ L - 7 < v3) (h2 : aI A v0 0 v3 = some x) (hy : x &&& 31 = 7) (ha1 : aI A v0 0 (v3 + 1) = some a) (ha2 : aI A v0 0 (v3 + 2) = some b) (ha3 : aI A v0 0 (v3 + 3) = some c) (hf : f_X10_gives A v1 a b c = some (r, A1)) (hb1 : aI A1 v0 0 (v3 + 1) = some a) (hb2 : aI A1 v0 0 (v3 + 2) = some b) (hb3 : aI A1 v0 0 (v3 + 3) = some c) (hg : f_X11_gives A1 v2 a b c = some (r, A2)) : b_L_law_18 N k18 A v0 v1 v2 v3 = k18 A2 v0 v1 v2 (v3 + 7) := by
  unfold b_L_law_18
  refine (bnd_eq h0).trans ((if_neg h1).trans ((bnd_eq h2).trans ?_))
  refine (if_neg (by rw [hy]; decide)).trans ?_
  refine (if_neg (by rw [hy]; decide)).trans ?_
  refine (if_neg (by rw [hy]; decide)).trans ?_
  refine (if_neg (by rw [hy]; decide)).trans ?_
  refine (if_neg (by rw [hy]; decide)).trans ?_
  refine (if_neg (by rw [hy]; decide)).trans ?_
  refine (if_neg (by rw [hy]; decide)).trans ?_
  refine (if_pos hy).trans ?_
  refine (bnd_eq ha1).trans ?_
  refine (bnd_eq ha2).trans ?_
  refine (bnd_eq ha3).trans ?_
  refine (bnd_eq hf).trans ?_
  refine (bnd_eq hb1).trans ?_
  refine (bnd_eq hb2).trans ?_
  refine (bnd_eq hb3).trans ?_
  refine (bnd_eq hg).trans ?_
  exact if_pos rfl
theorem lw_8 (h0 : ln6 A v0 = some L) (h1 : ¬ L - 7 < v3) (h2 : aI A v0 0 v3 = some x) (hy : x &&& 31 = 8) (ha1 : aI A v0 0 (v3 + 1) = some a) (ha2 : aI A v0 0 (v3 + 2) = some b) (hf : f_X10_tell A v1 a b = some r) (hg : f_X11_tell A v2 a b = some (r, A2)) : b_L_law_18 N k18 A v0 v1 v2 v3 = k18 A2 v0 v1 v2 (v3 + 7) := by
  unfold b_L_law_18
  refine (bnd_eq h0).trans ((if_neg h1).trans ((bnd_eq h2).trans ?_))
  refine (if_neg (by rw [hy]; decide)).trans ?_
  refine (if_neg (by rw [hy]; decide)).trans ?_
  refine (if_neg (by rw [hy]; decide)).trans ?_
  refine (if_neg (by rw [hy]; decide)).trans ?_
  refine (if_neg (by rw [hy]; decide)).trans ?_
  refine (if_neg (by rw [hy]; decide)).trans ?_
  refine (if_neg (by rw [hy]; decide)).trans ?_
  refine (if_neg (by rw [hy]; decide)).trans ?_
  refine (if_pos hy).trans ?_
  refine (bnd_eq ha1).trans ?_
  refine (bnd_eq ha2).trans ?_
  refine (bnd_eq hf).trans ?_
  refine (bnd_eq ha1).trans ?_
  refine (bnd_eq ha2).trans ?_
  refine (bnd_eq hg).trans ?_
  exact if_pos rfl
theorem lw_10 (h0 : ln6 A v0 = some L) (h1 : ¬ L - 7 < v3) (h2 : aI A v0 0 v3 = some x) (hy : x &&& 31 = 10) (ha1 : aI A v0 0 (v3 + 1) = some a) (ha2 : aI A v0 0 (v3 + 2) = some b) (ha3 : aI A v0 0 (v3 + 3) = some c) (ha4 : aI A v0 0 (v3 + 4) = some d) (hf : f_X10_ask A v1 a b c d = some (r, A1)) (hb1 : aI A1 v0 0 (v3 + 1) = some a) (hb2 : aI A1 v0 0 (v3 + 2) = some b) (hb3 : aI A1 v0 0 (v3 + 3) = some c) (hb4 : aI A1 v0 0 (v3 + 4) = some d) (hg : f_X11_ask A1 v2 a b c d = some (r, A2)) : b_L_law_18 N k18 A v0 v1 v2 v3 = k18 A2 v0 v1 v2 (v3 + 7) := by
  unfold b_L_law_18
  refine (bnd_eq h0).trans ((if_neg h1).trans ((bnd_eq h2).trans ?_))
  refine (if_neg (by rw [hy]; decide)).trans ?_
  refine (if_neg (by rw [hy]; decide)).trans ?_
  refine (if_neg (by rw [hy]; decide)).trans ?_
  refine (if_neg (by rw [hy]; decide)).trans ?_
  refine (if_neg (by rw [hy]; decide)).trans ?_
  refine (if_neg (by rw [hy]; decide)).trans ?_
  refine (if_neg (by rw [hy]; decide)).trans ?_
  refine (if_neg (by rw [hy]; decide)).trans ?_
  refine (if_neg (by rw [hy]; decide)).trans ?_
  refine (if_neg (by rw [hy]; decide)).trans ?_
  refine (if_pos hy).trans ?_
  refine (bnd_eq ha1).trans ?_
  refine (bnd_eq ha2).trans ?_
  refine (bnd_eq ha3).trans ?_
  refine (bnd_eq ha4).trans ?_
  refine (bnd_eq hf).trans ?_
  refine (bnd_eq hb1).trans ?_
  refine (bnd_eq hb2).trans ?_
  refine (bnd_eq hb3).trans ?_
  refine (bnd_eq hb4).trans ?_
  refine (bnd_eq hg).trans ?_
  exact if_pos rfl
theorem lw_11 (h0 : ln6 A v0 = some L) (h1 : ¬ L - 7 < v3) (h2 : aI A v0 0 v3 = some x) (hy : x &&& 31 = 11) (ha1 : aI A v0 0 (v3 + 1) = some a) (ha2 : aI A v0 0 (v3 + 2) = some b) (hf : f_X10_mark A v1 a b = some (r, A1)) (hb1 : aI A1 v0 0 (v3 + 1) = some a) (hb2 : aI A1 v0 0 (v3 + 2) = some b) (hg : f_X11_mark A1 v2 a b = some (r, A2)) : b_L_law_18 N k18 A v0 v1 v2 v3 = k18 A2 v0 v1 v2 (v3 + 7) := by
  unfold b_L_law_18
  refine (bnd_eq h0).trans ((if_neg h1).trans ((bnd_eq h2).trans ?_))
  refine (if_neg (by rw [hy]; decide)).trans ?_
  refine (if_neg (by rw [hy]; decide)).trans ?_
  refine (if_neg (by rw [hy]; decide)).trans ?_
  refine (if_neg (by rw [hy]; decide)).trans ?_
  refine (if_neg (by rw [hy]; decide)).trans ?_
  refine (if_neg (by rw [hy]; decide)).trans ?_
  refine (if_neg (by rw [hy]; decide)).trans ?_
  refine (if_neg (by rw [hy]; decide)).trans ?_
  refine (if_neg (by rw [hy]; decide)).trans ?_
  refine (if_neg (by rw [hy]; decide)).trans ?_
  refine (if_neg (by rw [hy]; decide)).trans ?_
  refine (if_pos hy).trans ?_
  refine (bnd_eq ha1).trans ?_
  refine (bnd_eq ha2).trans ?_
  refine (bnd_eq hf).trans ?_
  refine (bnd_eq hb1).trans ?_
  refine (bnd_eq hb2).trans ?_
  refine (bnd_eq hg).trans ?_
  exact if_pos rfl
theorem lw_12 (h0 : ln6 A v0 = some L) (h1 : ¬ L - 7 < v3) (h2 : aI A v0 0 v3 = some x) (hy : x &&& 31 = 12) (ha1 : aI A v0 0 (v3 + 1) = some a) (ha2 : aI A v0 0 (v3 + 2) = some b) (hf : f_X10_book A v1 a b = some r) (hg : f_X11_book A v2 a b = some (r, A2)) : b_L_law_18 N k18 A v0 v1 v2 v3 = k18 A2 v0 v1 v2 (v3 + 7) := by
  unfold b_L_law_18
  refine (bnd_eq h0).trans ((if_neg h1).trans ((bnd_eq h2).trans ?_))
  refine (if_neg (by rw [hy]; decide)).trans ?_
  refine (if_neg (by rw [hy]; decide)).trans ?_
  refine (if_neg (by rw [hy]; decide)).trans ?_
  refine (if_neg (by rw [hy]; decide)).trans ?_
  refine (if_neg (by rw [hy]; decide)).trans ?_
  refine (if_neg (by rw [hy]; decide)).trans ?_
  refine (if_neg (by rw [hy]; decide)).trans ?_
  refine (if_neg (by rw [hy]; decide)).trans ?_
  refine (if_neg (by rw [hy]; decide)).trans ?_
  refine (if_neg (by rw [hy]; decide)).trans ?_
  refine (if_neg (by rw [hy]; decide)).trans ?_
  refine (if_neg (by rw [hy]; decide)).trans ?_
  refine (if_pos hy).trans ?_
  refine (bnd_eq ha1).trans ?_
  refine (bnd_eq ha2).trans ?_
  refine (bnd_eq hf).trans ?_
  refine (bnd_eq ha1).trans ?_
  refine (bnd_eq ha2).trans ?_
  refine (bnd_eq hg).trans ?_
  exact if_pos rfl
theorem lw_13 (h0 : ln6 A v0 = some L) (h1 : ¬ L - 7 < v3) (h2 : aI A v0 0 v3 = some x) (hy : x &&& 31 = 13) (ha1 : aI A v0 0 (v3 + 1) = some a) (hf : f_X10_tried N A v1 a = some (r, A1)) (hb1 : aI A1 v0 0 (v3 + 1) = some a) (hg : f_X11_tried N A1 v2 a = some (r, A2)) : b_L_law_18 N k18 A v0 v1 v2 v3 = k18 A2 v0 v1 v2 (v3 + 7) := by
  unfold b_L_law_18
  refine (bnd_eq h0).trans ((if_neg h1).trans ((bnd_eq h2).trans ?_))
  refine (if_neg (by rw [hy]; decide)).trans ?_
  refine (if_neg (by rw [hy]; decide)).trans ?_
  refine (if_neg (by rw [hy]; decide)).trans ?_
  refine (if_neg (by rw [hy]; decide)).trans ?_
  refine (if_neg (by rw [hy]; decide)).trans ?_
  refine (if_neg (by rw [hy]; decide)).trans ?_
  refine (if_neg (by rw [hy]; decide)).trans ?_
  refine (if_neg (by rw [hy]; decide)).trans ?_
  refine (if_neg (by rw [hy]; decide)).trans ?_
  refine (if_neg (by rw [hy]; decide)).trans ?_
  refine (if_neg (by rw [hy]; decide)).trans ?_
  refine (if_neg (by rw [hy]; decide)).trans ?_
  refine (if_neg (by rw [hy]; decide)).trans ?_
  refine (if_pos hy).trans ?_
  refine (bnd_eq ha1).trans ?_
  refine (bnd_eq hf).trans ?_
  refine (bnd_eq hb1).trans ?_
  refine (bnd_eq hg).trans ?_
  exact if_pos rfl
theorem lw_14 (h0 : ln6 A v0 = some L) (h1 : ¬ L - 7 < v3) (h2 : aI A v0 0 v3 = some x) (hy : x &&& 31 = 14) (ha1 : aI A v0 0 (v3 + 1) = some a) (ha2 : aI A v0 0 (v3 + 2) = some b) (hf : f_X10_decides N A v1 a b = some (r, A1)) (hb1 : aI A1 v0 0 (v3 + 1) = some a) (hb2 : aI A1 v0 0 (v3 + 2) = some b) (hg : f_X11_decides N A1 v2 a b = some (r, A2)) : b_L_law_18 N k18 A v0 v1 v2 v3 = k18 A2 v0 v1 v2 (v3 + 7) := by
  unfold b_L_law_18
  refine (bnd_eq h0).trans ((if_neg h1).trans ((bnd_eq h2).trans ?_))
  refine (if_neg (by rw [hy]; decide)).trans ?_
  refine (if_neg (by rw [hy]; decide)).trans ?_
  refine (if_neg (by rw [hy]; decide)).trans ?_
  refine (if_neg (by rw [hy]; decide)).trans ?_
  refine (if_neg (by rw [hy]; decide)).trans ?_
  refine (if_neg (by rw [hy]; decide)).trans ?_
  refine (if_neg (by rw [hy]; decide)).trans ?_
  refine (if_neg (by rw [hy]; decide)).trans ?_
  refine (if_neg (by rw [hy]; decide)).trans ?_
  refine (if_neg (by rw [hy]; decide)).trans ?_
  refine (if_neg (by rw [hy]; decide)).trans ?_
  refine (if_neg (by rw [hy]; decide)).trans ?_
  refine (if_neg (by rw [hy]; decide)).trans ?_
  refine (if_neg (by rw [hy]; decide)).trans ?_
  refine (if_pos hy).trans ?_
  refine (bnd_eq ha1).trans ?_
  refine (bnd_eq ha2).trans ?_
  refine (bnd_eq hf).trans ?_
  refine (bnd_eq hb1).trans ?_
  refine (bnd_eq hb2).trans ?_
  refine (bnd_eq hg).trans ?_
  exact if_pos rfl
theorem lw_15 (h0 : ln6 A v0 = some L) (h1 : ¬ L - 7 < v3) (h2 : aI A v0 0 v3 = some x) (hy : x &&& 31 = 15) (ha1 : aI A v0 0 (v3 + 1) = some a) (ha2 : aI A v0 0 (v3 + 2) = some b) (ha3 : aI A v0 0 (v3 + 3) = some c) (hf : f_X10_lost N A v1 a b c = some (r, A1)) (hb1 : aI A1 v0 0 (v3 + 1) = some a) (hb2 : aI A1 v0 0 (v3 + 2) = some b) (hb3 : aI A1 v0 0 (v3 + 3) = some c) (hg : f_X11_lost N A1 v2 a b c = some (r, A2)) : b_L_law_18 N k18 A v0 v1 v2 v3 = k18 A2 v0 v1 v2 (v3 + 7) := by
  unfold b_L_law_18
  refine (bnd_eq h0).trans ((if_neg h1).trans ((bnd_eq h2).trans ?_))
  refine (if_neg (by rw [hy]; decide)).trans ?_
  refine (if_neg (by rw [hy]; decide)).trans ?_
  refine (if_neg (by rw [hy]; decide)).trans ?_
  refine (if_neg (by rw [hy]; decide)).trans ?_
  refine (if_neg (by rw [hy]; decide)).trans ?_
  refine (if_neg (by rw [hy]; decide)).trans ?_
  refine (if_neg (by rw [hy]; decide)).trans ?_
  refine (if_neg (by rw [hy]; decide)).trans ?_
  refine (if_neg (by rw [hy]; decide)).trans ?_
  refine (if_neg (by rw [hy]; decide)).trans ?_
  refine (if_neg (by rw [hy]; decide)).trans ?_
  refine (if_neg (by rw [hy]; decide)).trans ?_
  refine (if_neg (by rw [hy]; decide)).trans ?_
  refine (if_neg (by rw [hy]; decide)).trans ?_
  refine (if_neg (by rw [hy]; decide)).trans ?_
  refine (if_pos hy).trans ?_
  refine (bnd_eq ha1).trans ?_
  refine (bnd_eq ha2).trans ?_
  refine (bnd_eq ha3).trans ?_
  refine (bnd_eq hf).trans ?_
  refine (bnd_eq hb1).trans ?_
  refine (bnd_eq hb2).trans ?_
  refine (bnd_eq hb3).trans ?_
  refine (bnd_eq hg).trans ?_
  exact if_pos rfl
theorem lw_16 (h0 : ln6 A v0 = some L) (h1 : ¬ L - 7 < v3) (h2 : aI A v0 0 v3 = some x) (hy : x &&& 31 = 16) (ha1 : aI A v0 0 (v3 + 1) = some a) (ha2 : aI A v0 0 (v3 + 2) = some b) (hf : f_X10_idle N A v1 a b = some (r, A1)) (hb1 : aI A1 v0 0 (v3 + 1) = some a) (hb2 : aI A1 v0 0 (v3 + 2) = some b) (hg : f_X11_idle N A1 v2 a b = some (r, A2)) : b_L_law_18 N k18 A v0 v1 v2 v3 = k18 A2 v0 v1 v2 (v3 + 7) := by
  unfold b_L_law_18
  refine (bnd_eq h0).trans ((if_neg h1).trans ((bnd_eq h2).trans ?_))
  refine (if_neg (by rw [hy]; decide)).trans ?_
  refine (if_neg (by rw [hy]; decide)).trans ?_
  refine (if_neg (by rw [hy]; decide)).trans ?_
  refine (if_neg (by rw [hy]; decide)).trans ?_
  refine (if_neg (by rw [hy]; decide)).trans ?_
  refine (if_neg (by rw [hy]; decide)).trans ?_
  refine (if_neg (by rw [hy]; decide)).trans ?_
  refine (if_neg (by rw [hy]; decide)).trans ?_
  refine (if_neg (by rw [hy]; decide)).trans ?_
  refine (if_neg (by rw [hy]; decide)).trans ?_
  refine (if_neg (by rw [hy]; decide)).trans ?_
  refine (if_neg (by rw [hy]; decide)).trans ?_
  refine (if_neg (by rw [hy]; decide)).trans ?_
  refine (if_neg (by rw [hy]; decide)).trans ?_
  refine (if_neg (by rw [hy]; decide)).trans ?_
  refine (if_neg (by rw [hy]; decide)).trans ?_
  refine (if_pos hy).trans ?_
  refine (bnd_eq ha1).trans ?_
  refine (bnd_eq ha2).trans ?_
  refine (bnd_eq hf).trans ?_
  refine (bnd_eq hb1).trans ?_
  refine (bnd_eq hb2).trans ?_
  refine (bnd_eq hg).trans ?_
  exact if_pos rfl
theorem lw_17 (h0 : ln6 A v0 = some L) (h1 : ¬ L - 7 < v3) (h2 : aI A v0 0 v3 = some x) (hy : x &&& 31 = 17) (ha1 : aI A v0 0 (v3 + 1) = some a) (ha2 : aI A v0 0 (v3 + 2) = some b) (hf : f_X10_more N A v1 a b = some (r, A1)) (hb1 : aI A1 v0 0 (v3 + 1) = some a) (hb2 : aI A1 v0 0 (v3 + 2) = some b) (hg : f_X11_more N A1 v2 a b = some (r, A2)) : b_L_law_18 N k18 A v0 v1 v2 v3 = k18 A2 v0 v1 v2 (v3 + 7) := by
  unfold b_L_law_18
  refine (bnd_eq h0).trans ((if_neg h1).trans ((bnd_eq h2).trans ?_))
  refine (if_neg (by rw [hy]; decide)).trans ?_
  refine (if_neg (by rw [hy]; decide)).trans ?_
  refine (if_neg (by rw [hy]; decide)).trans ?_
  refine (if_neg (by rw [hy]; decide)).trans ?_
  refine (if_neg (by rw [hy]; decide)).trans ?_
  refine (if_neg (by rw [hy]; decide)).trans ?_
  refine (if_neg (by rw [hy]; decide)).trans ?_
  refine (if_neg (by rw [hy]; decide)).trans ?_
  refine (if_neg (by rw [hy]; decide)).trans ?_
  refine (if_neg (by rw [hy]; decide)).trans ?_
  refine (if_neg (by rw [hy]; decide)).trans ?_
  refine (if_neg (by rw [hy]; decide)).trans ?_
  refine (if_neg (by rw [hy]; decide)).trans ?_
  refine (if_neg (by rw [hy]; decide)).trans ?_
  refine (if_neg (by rw [hy]; decide)).trans ?_
  refine (if_neg (by rw [hy]; decide)).trans ?_
  refine (if_neg (by rw [hy]; decide)).trans ?_
  refine (if_pos hy).trans ?_
  refine (bnd_eq ha1).trans ?_
  refine (bnd_eq ha2).trans ?_
  refine (bnd_eq hf).trans ?_
  refine (bnd_eq hb1).trans ?_
  refine (bnd_eq hb2).trans ?_
  refine (bnd_eq hg).trans ?_
  exact if_pos rfl
theorem lw_18 (h0 : ln6 A v0 = some L) (h1 : ¬ L - 7 < v3) (h2 : aI A v0 0 v3 = some x) (hy : x &&& 31 = 18) (ha1 : aI A v0 0 (v3 + 1) = some a) (ha2 : aI A v0 0 (v3 + 2) = some b) (ha3 : aI A v0 0 (v3 + 3) = some c) (hf : f_X10_unlike N A v1 a b c = some (r, A1)) (hb1 : aI A1 v0 0 (v3 + 1) = some a) (hb2 : aI A1 v0 0 (v3 + 2) = some b) (hb3 : aI A1 v0 0 (v3 + 3) = some c) (hg : f_X11_unlike N A1 v2 a b c = some (r, A2)) : b_L_law_18 N k18 A v0 v1 v2 v3 = k18 A2 v0 v1 v2 (v3 + 7) := by
  unfold b_L_law_18
  refine (bnd_eq h0).trans ((if_neg h1).trans ((bnd_eq h2).trans ?_))
  refine (if_neg (by rw [hy]; decide)).trans ?_
  refine (if_neg (by rw [hy]; decide)).trans ?_
  refine (if_neg (by rw [hy]; decide)).trans ?_
  refine (if_neg (by rw [hy]; decide)).trans ?_
  refine (if_neg (by rw [hy]; decide)).trans ?_
  refine (if_neg (by rw [hy]; decide)).trans ?_
  refine (if_neg (by rw [hy]; decide)).trans ?_
  refine (if_neg (by rw [hy]; decide)).trans ?_
  refine (if_neg (by rw [hy]; decide)).trans ?_
  refine (if_neg (by rw [hy]; decide)).trans ?_
  refine (if_neg (by rw [hy]; decide)).trans ?_
  refine (if_neg (by rw [hy]; decide)).trans ?_
  refine (if_neg (by rw [hy]; decide)).trans ?_
  refine (if_neg (by rw [hy]; decide)).trans ?_
  refine (if_neg (by rw [hy]; decide)).trans ?_
  refine (if_neg (by rw [hy]; decide)).trans ?_
  refine (if_neg (by rw [hy]; decide)).trans ?_
  refine (if_neg (by rw [hy]; decide)).trans ?_
  refine (if_pos hy).trans ?_
  refine (bnd_eq ha1).trans ?_
  refine (bnd_eq ha2).trans ?_
  refine (bnd_eq ha3).trans ?_
  refine (bnd_eq hf).trans ?_
  refine (bnd_eq hb1).trans ?_
  refine (bnd_eq hb2).trans ?_
  refine (bnd_eq hb3).trans ?_
  refine (bnd_eq hg).trans ?_
  exact if_pos rfl
theorem lw_19 (h0 : ln6 A v0 = some L) (h1 : ¬ L - 7 < v3) (h2 : aI A v0 0 v3 = some x) (hy : x &&& 31 = 19) (ha1 : aI A v0 0 (v3 + 1) = some a) (hf : f_X10_mend N A v1 a = some (r, A1)) (hb1 : aI A1 v0 0 (v3 + 1) = some a) (hg : f_X11_mend N A1 v2 a = some (r, A2)) : b_L_law_18 N k18 A v0 v1 v2 v3 = k18 A2 v0 v1 v2 (v3 + 7) := by
  unfold b_L_law_18
  refine (bnd_eq h0).trans ((if_neg h1).trans ((bnd_eq h2).trans ?_))
  refine (if_neg (by rw [hy]; decide)).trans ?_
  refine (if_neg (by rw [hy]; decide)).trans ?_
  refine (if_neg (by rw [hy]; decide)).trans ?_
  refine (if_neg (by rw [hy]; decide)).trans ?_
  refine (if_neg (by rw [hy]; decide)).trans ?_
  refine (if_neg (by rw [hy]; decide)).trans ?_
  refine (if_neg (by rw [hy]; decide)).trans ?_
  refine (if_neg (by rw [hy]; decide)).trans ?_
  refine (if_neg (by rw [hy]; decide)).trans ?_
  refine (if_neg (by rw [hy]; decide)).trans ?_
  refine (if_neg (by rw [hy]; decide)).trans ?_
  refine (if_neg (by rw [hy]; decide)).trans ?_
  refine (if_neg (by rw [hy]; decide)).trans ?_
  refine (if_neg (by rw [hy]; decide)).trans ?_
  refine (if_neg (by rw [hy]; decide)).trans ?_
  refine (if_neg (by rw [hy]; decide)).trans ?_
  refine (if_neg (by rw [hy]; decide)).trans ?_
  refine (if_neg (by rw [hy]; decide)).trans ?_
  refine (if_neg (by rw [hy]; decide)).trans ?_
  refine (if_pos hy).trans ?_
  refine (bnd_eq ha1).trans ?_
  refine (bnd_eq hf).trans ?_
  refine (bnd_eq hb1).trans ?_
  refine (bnd_eq hg).trans ?_
  exact if_pos rfl
theorem lw_20 (h0 : ln6 A v0 = some L) (h1 : ¬ L - 7 < v3) (h2 : aI A v0 0 v3 = some x) (hy : x &&& 31 = 20) (ha1 : aI A v0 0 (v3 + 1) = some a) (ha2 : aI A v0 0 (v3 + 2) = some b) (hf : f_X10_change N A v1 a b = some r) (hg : f_X11_change A v2 a b = some (r, A2)) : b_L_law_18 N k18 A v0 v1 v2 v3 = k18 A2 v0 v1 v2 (v3 + 7) := by
  unfold b_L_law_18
  refine (bnd_eq h0).trans ((if_neg h1).trans ((bnd_eq h2).trans ?_))
  refine (if_neg (by rw [hy]; decide)).trans ?_
  refine (if_neg (by rw [hy]; decide)).trans ?_
  refine (if_neg (by rw [hy]; decide)).trans ?_
  refine (if_neg (by rw [hy]; decide)).trans ?_
  refine (if_neg (by rw [hy]; decide)).trans ?_
  refine (if_neg (by rw [hy]; decide)).trans ?_
  refine (if_neg (by rw [hy]; decide)).trans ?_
  refine (if_neg (by rw [hy]; decide)).trans ?_
  refine (if_neg (by rw [hy]; decide)).trans ?_
  refine (if_neg (by rw [hy]; decide)).trans ?_
  refine (if_neg (by rw [hy]; decide)).trans ?_
  refine (if_neg (by rw [hy]; decide)).trans ?_
  refine (if_neg (by rw [hy]; decide)).trans ?_
  refine (if_neg (by rw [hy]; decide)).trans ?_
  refine (if_neg (by rw [hy]; decide)).trans ?_
  refine (if_neg (by rw [hy]; decide)).trans ?_
  refine (if_neg (by rw [hy]; decide)).trans ?_
  refine (if_neg (by rw [hy]; decide)).trans ?_
  refine (if_neg (by rw [hy]; decide)).trans ?_
  refine (if_neg (by rw [hy]; decide)).trans ?_
  refine (if_pos hy).trans ?_
  refine (bnd_eq ha1).trans ?_
  refine (bnd_eq ha2).trans ?_
  refine (bnd_eq hf).trans ?_
  refine (bnd_eq ha1).trans ?_
  refine (bnd_eq ha2).trans ?_
  refine (bnd_eq hg).trans ?_
  exact if_pos rfl
theorem lw_21 (h0 : ln6 A v0 = some L) (h1 : ¬ L - 7 < v3) (h2 : aI A v0 0 v3 = some x) (hy : x &&& 31 = 21)  (hf : f_X10_apply N A v1  = some (r, A1))  (hg : f_X11_apply N A1 v2  = some (r, A2)) : b_L_law_18 N k18 A v0 v1 v2 v3 = k18 A2 v0 v1 v2 (v3 + 7) := by
  unfold b_L_law_18
  refine (bnd_eq h0).trans ((if_neg h1).trans ((bnd_eq h2).trans ?_))
  refine (if_neg (by rw [hy]; decide)).trans ?_
  refine (if_neg (by rw [hy]; decide)).trans ?_
  refine (if_neg (by rw [hy]; decide)).trans ?_
  refine (if_neg (by rw [hy]; decide)).trans ?_
  refine (if_neg (by rw [hy]; decide)).trans ?_
  refine (if_neg (by rw [hy]; decide)).trans ?_
  refine (if_neg (by rw [hy]; decide)).trans ?_
  refine (if_neg (by rw [hy]; decide)).trans ?_
  refine (if_neg (by rw [hy]; decide)).trans ?_
  refine (if_neg (by rw [hy]; decide)).trans ?_
  refine (if_neg (by rw [hy]; decide)).trans ?_
  refine (if_neg (by rw [hy]; decide)).trans ?_
  refine (if_neg (by rw [hy]; decide)).trans ?_
  refine (if_neg (by rw [hy]; decide)).trans ?_
  refine (if_neg (by rw [hy]; decide)).trans ?_
  refine (if_neg (by rw [hy]; decide)).trans ?_
  refine (if_neg (by rw [hy]; decide)).trans ?_
  refine (if_neg (by rw [hy]; decide)).trans ?_
  refine (if_neg (by rw [hy]; decide)).trans ?_
  refine (if_neg (by rw [hy]; decide)).trans ?_
  refine (if_neg (by rw [hy]; decide)).trans ?_
  refine (if_pos hy).trans ?_
  refine (bnd_eq hf).trans ?_
  refine (bnd_eq hg).trans ?_
  exact if_pos rfl
theorem lw_22 (h0 : ln6 A v0 = some L) (h1 : ¬ L - 7 < v3) (h2 : aI A v0 0 v3 = some x) (hy : x &&& 31 = 22) (ha1 : aI A v0 0 (v3 + 1) = some a) (ha2 : aI A v0 0 (v3 + 2) = some b) (ha3 : aI A v0 0 (v3 + 3) = some c) (hf : f_X10_line A v1 a b c = some r) (hg : f_X11_line A v2 a b c = some (r, A2)) : b_L_law_18 N k18 A v0 v1 v2 v3 = k18 A2 v0 v1 v2 (v3 + 7) := by
  unfold b_L_law_18
  refine (bnd_eq h0).trans ((if_neg h1).trans ((bnd_eq h2).trans ?_))
  refine (if_neg (by rw [hy]; decide)).trans ?_
  refine (if_neg (by rw [hy]; decide)).trans ?_
  refine (if_neg (by rw [hy]; decide)).trans ?_
  refine (if_neg (by rw [hy]; decide)).trans ?_
  refine (if_neg (by rw [hy]; decide)).trans ?_
  refine (if_neg (by rw [hy]; decide)).trans ?_
  refine (if_neg (by rw [hy]; decide)).trans ?_
  refine (if_neg (by rw [hy]; decide)).trans ?_
  refine (if_neg (by rw [hy]; decide)).trans ?_
  refine (if_neg (by rw [hy]; decide)).trans ?_
  refine (if_neg (by rw [hy]; decide)).trans ?_
  refine (if_neg (by rw [hy]; decide)).trans ?_
  refine (if_neg (by rw [hy]; decide)).trans ?_
  refine (if_neg (by rw [hy]; decide)).trans ?_
  refine (if_neg (by rw [hy]; decide)).trans ?_
  refine (if_neg (by rw [hy]; decide)).trans ?_
  refine (if_neg (by rw [hy]; decide)).trans ?_
  refine (if_neg (by rw [hy]; decide)).trans ?_
  refine (if_neg (by rw [hy]; decide)).trans ?_
  refine (if_neg (by rw [hy]; decide)).trans ?_
  refine (if_neg (by rw [hy]; decide)).trans ?_
  refine (if_neg (by rw [hy]; decide)).trans ?_
  refine (if_pos hy).trans ?_
  refine (bnd_eq ha1).trans ?_
  refine (bnd_eq ha2).trans ?_
  refine (bnd_eq ha3).trans ?_
  refine (bnd_eq hf).trans ?_
  refine (bnd_eq ha1).trans ?_
  refine (bnd_eq ha2).trans ?_
  refine (bnd_eq ha3).trans ?_
  refine (bnd_eq hg).trans ?_
  exact if_pos rfl
theorem lw_23 (h0 : ln6 A v0 = some L) (h1 : ¬ L - 7 < v3) (h2 : aI A v0 0 v3 = some x) (hy : x &&& 31 = 23) (ha1 : aI A v0 0 (v3 + 1) = some a) (hf : f_X10_count N A v1 a = some r) (hg : f_X11_count N A v2 a = some (r, A2)) : b_L_law_18 N k18 A v0 v1 v2 v3 = k18 A2 v0 v1 v2 (v3 + 7) := by
  unfold b_L_law_18
  refine (bnd_eq h0).trans ((if_neg h1).trans ((bnd_eq h2).trans ?_))
  refine (if_neg (by rw [hy]; decide)).trans ?_
  refine (if_neg (by rw [hy]; decide)).trans ?_
  refine (if_neg (by rw [hy]; decide)).trans ?_
  refine (if_neg (by rw [hy]; decide)).trans ?_
  refine (if_neg (by rw [hy]; decide)).trans ?_
  refine (if_neg (by rw [hy]; decide)).trans ?_
  refine (if_neg (by rw [hy]; decide)).trans ?_
  refine (if_neg (by rw [hy]; decide)).trans ?_
  refine (if_neg (by rw [hy]; decide)).trans ?_
  refine (if_neg (by rw [hy]; decide)).trans ?_
  refine (if_neg (by rw [hy]; decide)).trans ?_
  refine (if_neg (by rw [hy]; decide)).trans ?_
  refine (if_neg (by rw [hy]; decide)).trans ?_
  refine (if_neg (by rw [hy]; decide)).trans ?_
  refine (if_neg (by rw [hy]; decide)).trans ?_
  refine (if_neg (by rw [hy]; decide)).trans ?_
  refine (if_neg (by rw [hy]; decide)).trans ?_
  refine (if_neg (by rw [hy]; decide)).trans ?_
  refine (if_neg (by rw [hy]; decide)).trans ?_
  refine (if_neg (by rw [hy]; decide)).trans ?_
  refine (if_neg (by rw [hy]; decide)).trans ?_
  refine (if_neg (by rw [hy]; decide)).trans ?_
  refine (if_neg (by rw [hy]; decide)).trans ?_
  refine (if_pos hy).trans ?_
  refine (bnd_eq ha1).trans ?_
  refine (bnd_eq hf).trans ?_
  refine (bnd_eq ha1).trans ?_
  refine (bnd_eq hg).trans ?_
  exact if_pos rfl
theorem lw_24 (h0 : ln6 A v0 = some L) (h1 : ¬ L - 7 < v3) (h2 : aI A v0 0 v3 = some x) (hy : x &&& 31 = 24) (ha1 : aI A v0 0 (v3 + 1) = some a) (hf : f_X10_image N A v1 a = some (r, A1)) (hb1 : aI A1 v0 0 (v3 + 1) = some a) (hg : f_X11_image N A1 v2 a = some (r, A2)) : b_L_law_18 N k18 A v0 v1 v2 v3 = k18 A2 v0 v1 v2 (v3 + 7) := by
  unfold b_L_law_18
  refine (bnd_eq h0).trans ((if_neg h1).trans ((bnd_eq h2).trans ?_))
  refine (if_neg (by rw [hy]; decide)).trans ?_
  refine (if_neg (by rw [hy]; decide)).trans ?_
  refine (if_neg (by rw [hy]; decide)).trans ?_
  refine (if_neg (by rw [hy]; decide)).trans ?_
  refine (if_neg (by rw [hy]; decide)).trans ?_
  refine (if_neg (by rw [hy]; decide)).trans ?_
  refine (if_neg (by rw [hy]; decide)).trans ?_
  refine (if_neg (by rw [hy]; decide)).trans ?_
  refine (if_neg (by rw [hy]; decide)).trans ?_
  refine (if_neg (by rw [hy]; decide)).trans ?_
  refine (if_neg (by rw [hy]; decide)).trans ?_
  refine (if_neg (by rw [hy]; decide)).trans ?_
  refine (if_neg (by rw [hy]; decide)).trans ?_
  refine (if_neg (by rw [hy]; decide)).trans ?_
  refine (if_neg (by rw [hy]; decide)).trans ?_
  refine (if_neg (by rw [hy]; decide)).trans ?_
  refine (if_neg (by rw [hy]; decide)).trans ?_
  refine (if_neg (by rw [hy]; decide)).trans ?_
  refine (if_neg (by rw [hy]; decide)).trans ?_
  refine (if_neg (by rw [hy]; decide)).trans ?_
  refine (if_neg (by rw [hy]; decide)).trans ?_
  refine (if_neg (by rw [hy]; decide)).trans ?_
  refine (if_neg (by rw [hy]; decide)).trans ?_
  refine (if_neg (by rw [hy]; decide)).trans ?_
  refine (if_pos hy).trans ?_
  refine (bnd_eq ha1).trans ?_
  refine (bnd_eq hf).trans ?_
  refine (bnd_eq hb1).trans ?_
  refine (bnd_eq hg).trans ?_
  exact if_pos rfl
theorem lw_25 (h0 : ln6 A v0 = some L) (h1 : ¬ L - 7 < v3) (h2 : aI A v0 0 v3 = some x) (hy : x &&& 31 = 25) (ha1 : aI A v0 0 (v3 + 1) = some a) (hf : f_X10_again N A v1 a = some (r, A1)) (hb1 : aI A1 v0 0 (v3 + 1) = some a) (hg : f_X11_again N A1 v2 a = some (r, A2)) : b_L_law_18 N k18 A v0 v1 v2 v3 = k18 A2 v0 v1 v2 (v3 + 7) := by
  unfold b_L_law_18
  refine (bnd_eq h0).trans ((if_neg h1).trans ((bnd_eq h2).trans ?_))
  refine (if_neg (by rw [hy]; decide)).trans ?_
  refine (if_neg (by rw [hy]; decide)).trans ?_
  refine (if_neg (by rw [hy]; decide)).trans ?_
  refine (if_neg (by rw [hy]; decide)).trans ?_
  refine (if_neg (by rw [hy]; decide)).trans ?_
  refine (if_neg (by rw [hy]; decide)).trans ?_
  refine (if_neg (by rw [hy]; decide)).trans ?_
  refine (if_neg (by rw [hy]; decide)).trans ?_
  refine (if_neg (by rw [hy]; decide)).trans ?_
  refine (if_neg (by rw [hy]; decide)).trans ?_
  refine (if_neg (by rw [hy]; decide)).trans ?_
  refine (if_neg (by rw [hy]; decide)).trans ?_
  refine (if_neg (by rw [hy]; decide)).trans ?_
  refine (if_neg (by rw [hy]; decide)).trans ?_
  refine (if_neg (by rw [hy]; decide)).trans ?_
  refine (if_neg (by rw [hy]; decide)).trans ?_
  refine (if_neg (by rw [hy]; decide)).trans ?_
  refine (if_neg (by rw [hy]; decide)).trans ?_
  refine (if_neg (by rw [hy]; decide)).trans ?_
  refine (if_neg (by rw [hy]; decide)).trans ?_
  refine (if_neg (by rw [hy]; decide)).trans ?_
  refine (if_neg (by rw [hy]; decide)).trans ?_
  refine (if_neg (by rw [hy]; decide)).trans ?_
  refine (if_neg (by rw [hy]; decide)).trans ?_
  refine (if_neg (by rw [hy]; decide)).trans ?_
  refine (if_pos hy).trans ?_
  refine (bnd_eq ha1).trans ?_
  refine (bnd_eq hf).trans ?_
  refine (bnd_eq hb1).trans ?_
  refine (bnd_eq hg).trans ?_
  exact if_pos rfl
theorem lw_9 (h0 : ln6 A v0 = some L) (h1 : ¬ L - 7 < v3) (h2 : aI A v0 0 v3 = some x) (hy : x &&& 31 = 9) (ha1 : aI A v0 0 (v3 + 1) = some a) (ha2 : aI A v0 0 (v3 + 2) = some b) (ha3 : aI A v0 0 (v3 + 3) = some c) (ha4 : aI A v0 0 (v3 + 4) = some d) (ha5 : aI A v0 0 (v3 + 5) = some e) (ha6 : aI A v0 0 (v3 + 6) = some f) (hf : f_X10_decide N A v1 a b c d e (if f = 0 then 0 else 1) = some (r, A1)) (hb1 : aI A1 v0 0 (v3 + 1) = some a) (hb2 : aI A1 v0 0 (v3 + 2) = some b) (hb3 : aI A1 v0 0 (v3 + 3) = some c) (hb4 : aI A1 v0 0 (v3 + 4) = some d) (hb5 : aI A1 v0 0 (v3 + 5) = some e) (hb6 : aI A1 v0 0 (v3 + 6) = some f) (hg : f_X11_decide N A1 v2 a b c d e (if f = 0 then 0 else 1) = some (r, A2)) : b_L_law_18 N k18 A v0 v1 v2 v3 = k18 A2 v0 v1 v2 (v3 + 7) := by
  unfold b_L_law_18
  refine (bnd_eq h0).trans ((if_neg h1).trans ((bnd_eq h2).trans ?_))
  refine (if_neg (by rw [hy]; decide)).trans ?_
  refine (if_neg (by rw [hy]; decide)).trans ?_
  refine (if_neg (by rw [hy]; decide)).trans ?_
  refine (if_neg (by rw [hy]; decide)).trans ?_
  refine (if_neg (by rw [hy]; decide)).trans ?_
  refine (if_neg (by rw [hy]; decide)).trans ?_
  refine (if_neg (by rw [hy]; decide)).trans ?_
  refine (if_neg (by rw [hy]; decide)).trans ?_
  refine (if_neg (by rw [hy]; decide)).trans ?_
  refine (if_pos hy).trans ?_
  refine (bnd_eq ha1).trans ?_
  refine (bnd_eq ha2).trans ?_
  refine (bnd_eq ha3).trans ?_
  refine (bnd_eq ha4).trans ?_
  refine (bnd_eq ha5).trans ?_
  refine (bnd_eq ha6).trans ?_
  by_cases hz : f = 0
  · rw [if_pos hz] at hf hg
    refine (if_pos hz).trans ?_
    unfold b_L_law_519
    refine (bnd_eq hf).trans ((bnd_eq hb1).trans ((bnd_eq hb2).trans ((bnd_eq hb3).trans ((bnd_eq hb4).trans ((bnd_eq hb5).trans ((bnd_eq hb6).trans ((if_pos hz).trans ?_)))))))
    unfold b_L_law_562
    exact (bnd_eq hg).trans (if_pos rfl)
  · rw [if_neg hz] at hf hg
    refine (if_neg hz).trans ?_
    unfold b_L_law_519
    refine (bnd_eq hf).trans ((bnd_eq hb1).trans ((bnd_eq hb2).trans ((bnd_eq hb3).trans ((bnd_eq hb4).trans ((bnd_eq hb5).trans ((bnd_eq hb6).trans ((if_neg hz).trans ?_)))))))
    unfold b_L_law_562
    exact (bnd_eq hg).trans (if_pos rfl)
theorem lw_o (h0 : ln6 A v0 = some L) (h1 : ¬ L - 7 < v3) (h2 : aI A v0 0 v3 = some x) {y : Nat} (hy : x &&& 31 = nI y) (hl : 26 ≤ y) (hu : y < 32) : b_L_law_18 N k18 A v0 v1 v2 v3 = k18 A v0 v1 v2 (v3 + 7) := by
  have ne : ∀ j : Nat, j < 26 → ¬ x &&& 31 = nI j := fun j hj z => ne_nI (a := y) (b := j) (by omega) (by omega) (by omega) (hy.symm.trans z)
  unfold b_L_law_18
  refine (bnd_eq h0).trans ((if_neg h1).trans ((bnd_eq h2).trans ?_))
  refine (if_neg (ne 0 (by decide))).trans ?_
  refine (if_neg (ne 1 (by decide))).trans ?_
  refine (if_neg (ne 2 (by decide))).trans ?_
  refine (if_neg (ne 3 (by decide))).trans ?_
  refine (if_neg (ne 4 (by decide))).trans ?_
  refine (if_neg (ne 5 (by decide))).trans ?_
  refine (if_neg (ne 6 (by decide))).trans ?_
  refine (if_neg (ne 7 (by decide))).trans ?_
  refine (if_neg (ne 8 (by decide))).trans ?_
  refine (if_neg (ne 9 (by decide))).trans ?_
  refine (if_neg (ne 10 (by decide))).trans ?_
  refine (if_neg (ne 11 (by decide))).trans ?_
  refine (if_neg (ne 12 (by decide))).trans ?_
  refine (if_neg (ne 13 (by decide))).trans ?_
  refine (if_neg (ne 14 (by decide))).trans ?_
  refine (if_neg (ne 15 (by decide))).trans ?_
  refine (if_neg (ne 16 (by decide))).trans ?_
  refine (if_neg (ne 17 (by decide))).trans ?_
  refine (if_neg (ne 18 (by decide))).trans ?_
  refine (if_neg (ne 19 (by decide))).trans ?_
  refine (if_neg (ne 20 (by decide))).trans ?_
  refine (if_neg (ne 21 (by decide))).trans ?_
  refine (if_neg (ne 22 (by decide))).trans ?_
  refine (if_neg (ne 23 (by decide))).trans ?_
  refine (if_neg (ne 24 (by decide))).trans ?_
  refine (if_neg (ne 25 (by decide))).trans ?_
  rfl
theorem lw_e (h0 : ln6 A v0 = some L) (h1 : L - 7 < v3) : b_L_law_18 N k18 A v0 v1 v2 v3 = some (1, A) := by
  unfold b_L_law_18
  exact (bnd_eq h0).trans (if_pos h1)
end LAWA
variable {X : XS} {C : CS} {M : MS} {T : TS} {S : SG} {K : Nat}
theorem and31 (x : Int32) : ∃ y, y < 32 ∧ x &&& 31 = nI y := by
  refine ⟨(x &&& 31).toBitVec.toNat, ?_, ?_⟩
  · have h : (x &&& 31).toBitVec = x.toBitVec &&& 31#32 := rfl
    rw [h, BitVec.toNat_and]
    exact Nat.lt_of_le_of_lt Nat.and_le_right (by decide)
  · apply Int32.toBitVec_inj.mp
    show (x &&& 31).toBitVec = BitVec.ofNat 32 (x &&& 31).toBitVec.toNat
    rw [BitVec.ofNat_toNat, BitVec.setWidth_eq]
theorem law_step (N : Nat) (hN : 30000 ≤ N) (hL : X.1 ≤ 3584) (hK : K < 1000) {i : Nat} (hi : i + 7 ≤ X.1) (h : INV S C M T K) : ∃ S' C' M' T' K', (∀ k18, b_L_law_18 N k18 (hp X C M T) (some 0) (some 8) (some 35) (nI i) = k18 (hp X C' M' T') (some 0) (some 8) (some 35) (nI (i + 7))) ∧ INV S' C' M' T' K' ∧ K' ≤ K + 1 ∧ Bd T T' := by
  have e7 : nI i + 7 = nI (i + 7) := nI_add i 7
  have h0 : ln6 (hp X C M T) (some 0) = some (nI X.1) := ln_0
  have h1 : ¬ nI X.1 - 7 < nI i := by
    rw [show (7 : Int32) = nI 7 from rfl, nI_sub' (by omega)]
    exact nI_nlt (by omega) (by omega)
  have rd : ∀ (C : CS) (M : MS) (T : TS) (j : Nat), j < 7 → aI (hp X C M T) (some 0) 0 (nI i + nI j) = some (X.2 (i + j)) := fun C M T j hj => by
    rw [nI_add]; exact ai_0 (by omega) (by omega)
  have h2 : aI (hp X C M T) (some 0) 0 (nI i) = some (X.2 i) := ai_0 (by omega) (by omega)
  obtain ⟨y, hy1, hy⟩ := and31 (X.2 i)
  by_cases h26 : 26 ≤ y
  · exact ⟨S, C, M, T, K, fun k18 => by rw [lw_o h0 h1 h2 hy h26 hy1, e7], h, by omega, Bd.rf T⟩
  rcases (show y = 0 ∨ y = 1 ∨ y = 2 ∨ y = 3 ∨ y = 4 ∨ y = 5 ∨ y = 6 ∨ y = 7 ∨ y = 8 ∨ y = 9 ∨ y = 10 ∨ y = 11 ∨ y = 12 ∨ y = 13 ∨ y = 14 ∨ y = 15 ∨ y = 16 ∨ y = 17 ∨ y = 18 ∨ y = 19 ∨ y = 20 ∨ y = 21 ∨ y = 22 ∨ y = 23 ∨ y = 24 ∨ y = 25 by omega) with rfl | rfl | rfl | rfl | rfl | rfl | rfl | rfl | rfl | rfl | rfl | rfl | rfl | rfl | rfl | rfl | rfl | rfl | rfl | rfl | rfl | rfl | rfl | rfl | rfl | rfl
  · obtain ⟨r, S', C', M', T', f1, f2, f3, f4⟩ := op_feed (X := X) N (by omega) h (X.2 (i + 1)) (X.2 (i + 2)) (X.2 (i + 3)) (X.2 (i + 4)) (X.2 (i + 5))
    exact ⟨S', C', M', T', K + 1, fun k18 => by rw [lw_0 h0 h1 h2 hy (rd C M T 1 (by decide)) (rd C M T 2 (by decide)) (rd C M T 3 (by decide)) (rd C M T 4 (by decide)) (rd C M T 5 (by decide)) f1 (rd C' M T' 1 (by decide)) (rd C' M T' 2 (by decide)) (rd C' M T' 3 (by decide)) (rd C' M T' 4 (by decide)) (rd C' M T' 5 (by decide)) f2, e7], f3, Nat.le_refl _, f4⟩
  · obtain ⟨r, S', C', M', T', f1, f2, f3, f4⟩ := op_end (X := X)  h (X.2 (i + 1))
    exact ⟨S', C', M', T', K + 1, fun k18 => by rw [lw_1 h0 h1 h2 hy (rd C M T 1 (by decide)) f1 (rd C' M T' 1 (by decide)) f2, e7], f3, Nat.le_refl _, f4⟩
  · obtain ⟨r, S', C', M', T', f1, f2, f3, f4⟩ := op_rules (X := X) N (by omega) hK h (X.2 (i + 1))
    exact ⟨S', C', M', T', K + 1, fun k18 => by rw [lw_2 h0 h1 h2 hy (rd C M T 1 (by decide)) f1 (rd C' M T' 1 (by decide)) f2, e7], f3, Nat.le_refl _, f4⟩
  · obtain ⟨r, M', f1, f2, f3⟩ := op_fault (X := X)  h (X.2 (i + 1))
    exact ⟨S, C, M', T, K + 1, fun k18 => by rw [lw_3 h0 h1 h2 hy (rd C M T 1 (by decide)) f1 f2, e7], f3, Nat.le_refl _, Bd.rf T⟩
  · obtain ⟨r, S', C', M', T', f1, f2, f3, f4⟩ := op_person (X := X)  h (X.2 (i + 1)) (X.2 (i + 2))
    exact ⟨S', C', M', T', K + 1, fun k18 => by rw [lw_4 h0 h1 h2 hy (rd C M T 1 (by decide)) (rd C M T 2 (by decide)) f1 (rd C' M T' 1 (by decide)) (rd C' M T' 2 (by decide)) f2, e7], f3, Nat.le_refl _, f4⟩
  · obtain ⟨r, S', C', M', T', f1, f2, f3, f4⟩ := op_thing (X := X)  h (X.2 (i + 1)) (X.2 (i + 2)) (X.2 (i + 3))
    exact ⟨S', C', M', T', K + 1, fun k18 => by rw [lw_5 h0 h1 h2 hy (rd C M T 1 (by decide)) (rd C M T 2 (by decide)) (rd C M T 3 (by decide)) f1 (rd C' M T' 1 (by decide)) (rd C' M T' 2 (by decide)) (rd C' M T' 3 (by decide)) f2, e7], f3, Nat.le_refl _, f4⟩
  · obtain ⟨r, S', C', M', T', f1, f2, f3, f4⟩ := op_moves (X := X)  h (X.2 (i + 1)) (X.2 (i + 2)) (X.2 (i + 3))
    exact ⟨S', C', M', T', K + 1, fun k18 => by rw [lw_6 h0 h1 h2 hy (rd C M T 1 (by decide)) (rd C M T 2 (by decide)) (rd C M T 3 (by decide)) f1 (rd C' M T' 1 (by decide)) (rd C' M T' 2 (by decide)) (rd C' M T' 3 (by decide)) f2, e7], f3, Nat.le_refl _, f4⟩
  · obtain ⟨r, S', C', M', T', f1, f2, f3, f4⟩ := op_gives (X := X)  h (X.2 (i + 1)) (X.2 (i + 2)) (X.2 (i + 3))
    exact ⟨S', C', M', T', K + 1, fun k18 => by rw [lw_7 h0 h1 h2 hy (rd C M T 1 (by decide)) (rd C M T 2 (by decide)) (rd C M T 3 (by decide)) f1 (rd C' M T' 1 (by decide)) (rd C' M T' 2 (by decide)) (rd C' M T' 3 (by decide)) f2, e7], f3, Nat.le_refl _, f4⟩
  · obtain ⟨r, M', f1, f2, f3⟩ := op_tell (X := X)  h (X.2 (i + 1)) (X.2 (i + 2))
    exact ⟨S, C, M', T, K + 1, fun k18 => by rw [lw_8 h0 h1 h2 hy (rd C M T 1 (by decide)) (rd C M T 2 (by decide)) f1 f2, e7], f3, Nat.le_refl _, Bd.rf T⟩
  · obtain ⟨r, C', M', f1, f2, f3⟩ := op_decide (X := X) N (by omega) h (X.2 (i + 1)) (X.2 (i + 2)) (X.2 (i + 3)) (X.2 (i + 4)) (X.2 (i + 5)) (if X.2 (i + 6) = 0 then 0 else 1)
    exact ⟨S, C', M', T, K + 1, fun k18 => by rw [lw_9 h0 h1 h2 hy (rd C M T 1 (by decide)) (rd C M T 2 (by decide)) (rd C M T 3 (by decide)) (rd C M T 4 (by decide)) (rd C M T 5 (by decide)) (rd C M T 6 (by decide)) f1 (rd C' M T 1 (by decide)) (rd C' M T 2 (by decide)) (rd C' M T 3 (by decide)) (rd C' M T 4 (by decide)) (rd C' M T 5 (by decide)) (rd C' M T 6 (by decide)) f2, e7], f3, Nat.le_refl _, Bd.rf T⟩
  · obtain ⟨r, S', C', M', T', f1, f2, f3, f4⟩ := op_ask (X := X)  h (X.2 (i + 1)) (X.2 (i + 2)) (X.2 (i + 3)) (X.2 (i + 4))
    exact ⟨S', C', M', T', K + 1, fun k18 => by rw [lw_10 h0 h1 h2 hy (rd C M T 1 (by decide)) (rd C M T 2 (by decide)) (rd C M T 3 (by decide)) (rd C M T 4 (by decide)) f1 (rd C' M T' 1 (by decide)) (rd C' M T' 2 (by decide)) (rd C' M T' 3 (by decide)) (rd C' M T' 4 (by decide)) f2, e7], f3, Nat.le_refl _, f4⟩
  · obtain ⟨r, S', C', M', T', f1, f2, f3, f4⟩ := op_mark (X := X)  h (X.2 (i + 1)) (X.2 (i + 2))
    exact ⟨S', C', M', T', K + 1, fun k18 => by rw [lw_11 h0 h1 h2 hy (rd C M T 1 (by decide)) (rd C M T 2 (by decide)) f1 (rd C' M T' 1 (by decide)) (rd C' M T' 2 (by decide)) f2, e7], f3, Nat.le_refl _, f4⟩
  · obtain ⟨r, M', f1, f2, f3⟩ := op_book (X := X)  h (X.2 (i + 1)) (X.2 (i + 2))
    exact ⟨S, C, M', T, K + 1, fun k18 => by rw [lw_12 h0 h1 h2 hy (rd C M T 1 (by decide)) (rd C M T 2 (by decide)) f1 f2, e7], f3, Nat.le_refl _, Bd.rf T⟩
  · obtain ⟨r, C', M', f1, f2, f3⟩ := op_tried (X := X) N (by omega) h (X.2 (i + 1))
    exact ⟨S, C', M', T, K + 1, fun k18 => by rw [lw_13 h0 h1 h2 hy (rd C M T 1 (by decide)) f1 (rd C' M T 1 (by decide)) f2, e7], f3, Nat.le_refl _, Bd.rf T⟩
  · obtain ⟨r, C', M', f1, f2, f3⟩ := op_decides (X := X) N (by omega) h (X.2 (i + 1)) (X.2 (i + 2))
    exact ⟨S, C', M', T, K + 1, fun k18 => by rw [lw_14 h0 h1 h2 hy (rd C M T 1 (by decide)) (rd C M T 2 (by decide)) f1 (rd C' M T 1 (by decide)) (rd C' M T 2 (by decide)) f2, e7], f3, Nat.le_refl _, Bd.rf T⟩
  · obtain ⟨r, C', M', f1, f2, f3⟩ := op_lost (X := X) N (by omega) h (X.2 (i + 1)) (X.2 (i + 2)) (X.2 (i + 3))
    exact ⟨S, C', M', T, K + 1, fun k18 => by rw [lw_15 h0 h1 h2 hy (rd C M T 1 (by decide)) (rd C M T 2 (by decide)) (rd C M T 3 (by decide)) f1 (rd C' M T 1 (by decide)) (rd C' M T 2 (by decide)) (rd C' M T 3 (by decide)) f2, e7], f3, Nat.le_refl _, Bd.rf T⟩
  · obtain ⟨r, C', M', f1, f2, f3⟩ := op_idle (X := X) N (by omega) h (X.2 (i + 1)) (X.2 (i + 2))
    exact ⟨S, C', M', T, K + 1, fun k18 => by rw [lw_16 h0 h1 h2 hy (rd C M T 1 (by decide)) (rd C M T 2 (by decide)) f1 (rd C' M T 1 (by decide)) (rd C' M T 2 (by decide)) f2, e7], f3, Nat.le_refl _, Bd.rf T⟩
  · obtain ⟨r, C', M', f1, f2, f3⟩ := op_more (X := X) N (by omega) h (X.2 (i + 1)) (X.2 (i + 2))
    exact ⟨S, C', M', T, K + 1, fun k18 => by rw [lw_17 h0 h1 h2 hy (rd C M T 1 (by decide)) (rd C M T 2 (by decide)) f1 (rd C' M T 1 (by decide)) (rd C' M T 2 (by decide)) f2, e7], f3, Nat.le_refl _, Bd.rf T⟩
  · obtain ⟨r, C', M', f1, f2, f3⟩ := op_unlike (X := X) N (by omega) h (X.2 (i + 1)) (X.2 (i + 2)) (X.2 (i + 3))
    exact ⟨S, C', M', T, K + 1, fun k18 => by rw [lw_18 h0 h1 h2 hy (rd C M T 1 (by decide)) (rd C M T 2 (by decide)) (rd C M T 3 (by decide)) f1 (rd C' M T 1 (by decide)) (rd C' M T 2 (by decide)) (rd C' M T 3 (by decide)) f2, e7], f3, Nat.le_refl _, Bd.rf T⟩
  · obtain ⟨r, S', C', M', T', f1, f2, f3, f4⟩ := op_mend (X := X) N (by omega) h (X.2 (i + 1))
    exact ⟨S', C', M', T', K + 1, fun k18 => by rw [lw_19 h0 h1 h2 hy (rd C M T 1 (by decide)) f1 (rd C' M T' 1 (by decide)) f2, e7], f3, Nat.le_refl _, f4⟩
  · obtain ⟨r, M', f1, f2, f3⟩ := op_change (X := X) N (by omega) h (X.2 (i + 1)) (X.2 (i + 2))
    exact ⟨S, C, M', T, K + 1, fun k18 => by rw [lw_20 h0 h1 h2 hy (rd C M T 1 (by decide)) (rd C M T 2 (by decide)) f1 f2, e7], f3, Nat.le_refl _, Bd.rf T⟩
  · obtain ⟨r, S', C', M', T', f1, f2, f3, f4⟩ := op_apply (X := X) N (by omega) hK h 
    exact ⟨S', C', M', T', K + 1, fun k18 => by rw [lw_21 h0 h1 h2 hy  f1  f2, e7], f3, Nat.le_refl _, f4⟩
  · obtain ⟨r, M', f1, f2, f3⟩ := op_line (X := X)  h (X.2 (i + 1)) (X.2 (i + 2)) (X.2 (i + 3))
    exact ⟨S, C, M', T, K + 1, fun k18 => by rw [lw_22 h0 h1 h2 hy (rd C M T 1 (by decide)) (rd C M T 2 (by decide)) (rd C M T 3 (by decide)) f1 f2, e7], f3, Nat.le_refl _, Bd.rf T⟩
  · obtain ⟨r, M', f1, f2, f3⟩ := op_count (X := X) N (by omega) h (X.2 (i + 1))
    exact ⟨S, C, M', T, K + 1, fun k18 => by rw [lw_23 h0 h1 h2 hy (rd C M T 1 (by decide)) f1 f2, e7], f3, Nat.le_refl _, Bd.rf T⟩
  · obtain ⟨r, S', C', M', T', f1, f2, f3, f4⟩ := op_image (X := X) N (by omega) h (X.2 (i + 1))
    exact ⟨S', C', M', T', K + 1, fun k18 => by rw [lw_24 h0 h1 h2 hy (rd C M T 1 (by decide)) f1 (rd C' M T' 1 (by decide)) f2, e7], f3, Nat.le_refl _, f4⟩
  · obtain ⟨r, S', C', M', T', f1, f2, f3, f4⟩ := op_again (X := X) N (by omega) h (X.2 (i + 1))
    exact ⟨S', C', M', T', K + 1, fun k18 => by rw [lw_25 h0 h1 h2 hy (rd C M T 1 (by decide)) f1 (rd C' M T' 1 (by decide)) f2, e7], f3, Nat.le_refl _, f4⟩
end LAW
