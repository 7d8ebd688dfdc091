/-! both constructors, run: new cells one after the other -/
section INJ
def P8 (X : XS) : List LC := [.inl (0, X.1, .inl X.2), .inl (0, 5, .inl a_who), .inl (0, 4, .inl a_what), .inr (100, []), .inr (100, []), .inr (100, []), .inr (100, []), .inr (100, [])]
/-- the cells from place 8 on -/
def Hq (X : XS) (tl : List LC) (z : Nat) : LH := (P8 X ++ (tl ++ List.replicate (54 - tl.length) ab_), tl.length, z, fun _ => ab_)
variable {X : XS} {tl ts us : List LC} {z : Nat}
theorem q_al {c : LC} {w : Nat} (h : tl.length < 54) : al (Hq X tl z) c w = Hq X (tl ++ [c]) (z + w) := by
  have e : (P8 X ++ (tl ++ List.replicate (54 - tl.length) ab_)).set (8 + tl.length) c = P8 X ++ ((tl ++ [c]) ++ List.replicate (54 - (tl ++ [c]).length) ab_) := by
    obtain ⟨k, hk⟩ : ∃ k, 54 - tl.length = k + 1 := ⟨53 - tl.length, by omega⟩
    have hk2 : 54 - (tl ++ [c]).length = k := by rw [List.length_append, List.length_singleton]; omega
    rw [hk, hk2, List.set_append_right _ _ (by show 8 ≤ 8 + tl.length; omega), show 8 + tl.length - (P8 X).length = tl.length by show 8 + tl.length - 8 = _; omega, List.set_append_right _ _ (Nat.le_refl _), Nat.sub_self, List.replicate_succ, List.set_cons_zero, List.append_assoc]
    rfl
  unfold al
  rw [if_pos (show 8 + hn (Hq X tl z) < 62 by show 8 + tl.length < 62; omega)]
  show ((P8 X ++ (tl ++ List.replicate (54 - tl.length) ab_)).set (8 + tl.length) c, tl.length + 1, z + w, fun _ => ab_) = _
  rw [e]
  unfold Hq
  rw [List.length_append, List.length_singleton]
theorem q_gc {c : LC} {j : Nat} (h : tl[j]? = some c) (h51 : tl.length ≤ 54) : gc (Hq X tl z) (8 + j) = c := by
  have hj := at_lt h
  unfold gc
  rw [if_pos (by omega)]
  show (P8 X ++ (tl ++ List.replicate (54 - tl.length) ab_)).getD (8 + j) ab_ = c
  rw [List.getD_eq_getElem?_getD, List.getElem?_append_right (by show 8 ≤ 8 + j; omega), show 8 + j - (P8 X).length = j by show 8 + j - 8 = j; omega, List.getElem?_append_left hj, h]
  rfl
theorem q_sc {c : LC} {j : Nat} (h : j < tl.length) (h51 : tl.length ≤ 54) : sc (Hq X tl z) (8 + j) c = Hq X (tl.set j c) z := by
  unfold sc
  rw [if_pos (by omega)]
  show ((P8 X ++ (tl ++ List.replicate (54 - tl.length) ab_)).set (8 + j) c, tl.length, z, fun _ => ab_) = _
  unfold Hq
  rw [List.set_append_right _ _ (by show 8 ≤ 8 + j; omega), show 8 + j - (P8 X).length = j by show 8 + j - 8 = j; omega, List.set_append_left _ _ h, List.length_set]
theorem q_pF {ci k j : Nat} {fs : List LV} {v : LV} (h : tl[j]? = some (.inr (ci, fs))) (hk : k < fs.length) (h51 : tl.length ≤ 54) : pF (Hq X tl z) (some (8 + j)) ci k v = some (Hq X (tl.set j (.inr (ci, fs.set k v))) z) := by
  have hc := q_gc (X := X) (z := z) h h51
  simp only [pF, hc]
  rw [if_pos ⟨trivial, hk, by omega⟩, q_sc (at_lt h) h51]
theorem q_nI {t n : Nat} (h : tl.length < 54) (hn : n ≤ 60000000) : nI_ (Hq X tl z) t (nI n) = some (Hq X (tl ++ [.inl (t, n, .inl fun _ => 0)]) (z + n)) := by
  unfold nI_
  rw [nI_clamp (by omega), if_pos ⟨nI_pos (by omega), hn⟩, q_al h]
theorem q_nR {t n : Nat} (h : tl.length < 54) (hn : n ≤ 60000000) : nR_ (Hq X tl z) t (nI n) = some (Hq X (tl ++ [.inl (t, n, .inr fun _ => none)]) (z + n)) := by
  unfold nR_
  rw [nI_clamp (by omega), if_pos ⟨nI_pos (by omega), hn⟩, q_al h]
theorem q_hn : hn (Hq X tl z) = tl.length := rfl
/-- behind what stands (ts), what is being made (us) -/
theorem u_pF {ci k i : Nat} {fs : List LV} {v : LV} (h : us[i]? = some (.inr (ci, fs))) (hk : k < fs.length) (h51 : ts.length + us.length ≤ 54) : pF (Hq X (ts ++ us) z) (some (8 + (ts.length + i))) ci k v = some (Hq X (ts ++ us.set i (.inr (ci, fs.set k v))) z) := by
  have h2 : (ts ++ us)[ts.length + i]? = some (.inr (ci, fs)) := by
    rw [List.getElem?_append_right (by omega), Nat.add_sub_cancel_left]; exact h
  rw [q_pF h2 hk (by rw [List.length_append]; exact h51), List.set_append_right _ _ (by omega), Nat.add_sub_cancel_left]
theorem u_isO {ci i : Nat} {fs : List LV} (h : us[i]? = some (.inr (ci, fs))) (h51 : ts.length + us.length ≤ 54) : isO (Hq X (ts ++ us) z) (some (8 + (ts.length + i))) ci = true := by
  have h2 : (ts ++ us)[ts.length + i]? = some (.inr (ci, fs)) := by
    rw [List.getElem?_append_right (by omega), Nat.add_sub_cancel_left]; exact h
  exact isO_at (q_gc h2 (by rw [List.length_append]; exact h51))
theorem u_nI {t n : Nat} (h : ts.length + us.length < 54) (hn : n ≤ 60000000) : nI_ (Hq X (ts ++ us) z) t (nI n) = some (Hq X (ts ++ (us ++ [.inl (t, n, .inl fun _ => 0)])) (z + n)) := by
  rw [q_nI (by rw [List.length_append]; exact h) hn, List.append_assoc]
theorem u_hn : 8 + hn (Hq X (ts ++ us) z) = 8 + (ts.length + us.length) := by rw [q_hn, List.length_append]
theorem u0_isO {ci : Nat} {fs : List LV} (h51 : ts.length + (us.length + 1) ≤ 54) : isO (Hq X (ts ++ .inr (ci, fs) :: us) z) (some (8 + ts.length)) ci = true := u_isO (us := .inr (ci, fs) :: us) (i := 0) rfl h51
theorem u0_pF {ci k : Nat} {fs : List LV} {v : LV} (hk : k < fs.length) (h51 : ts.length + (us.length + 1) ≤ 54) : pF (Hq X (ts ++ .inr (ci, fs) :: us) z) (some (8 + ts.length)) ci k v = some (Hq X (ts ++ .inr (ci, fs.set k v) :: us) z) := u_pF (us := .inr (ci, fs) :: us) (i := 0) rfl hk h51
theorem i_X6 (h : ts.length < 50) : f_X6_init (Hq X (ts ++ [.inr (6, [LR none, LI 0])]) z) (some (8 + ts.length)) = some (Hq X (ts ++ [.inr (6, [LR (some (9 + ts.length)), LI 0]), .inl (0, 600, .inl fun _ => 0)]) (z + 600)) := by
  unfold f_X6_init b_X6_init
  refine (if_pos (u0_isO (by show ts.length + 1 ≤ 54; omega))).trans ?_
  rw [u_hn]
  refine (bnd_eq (u_nI (n := 600) (by show ts.length + 1 < 54; omega) (by decide))).trans ?_
  refine (bnd_eq (u0_pF (by show 0 < 2; decide) (by show ts.length + 2 ≤ 54; omega))).trans ?_
  refine (bnd_eq (u0_pF (by show 1 < 2; decide) (by show ts.length + 2 ≤ 54; omega))).trans ?_
  rw [show 9 + ts.length = 8 + (ts.length + 1) by omega]
  rfl
theorem i_X5 {a b : Nat} (h : ts.length < 50) (hab : a * b ≤ 60000000) : f_X5_init (Hq X (ts ++ [.inr (5, [LI 0, LI 0, LR none, LI 0])]) z) (some (8 + ts.length)) (nI a) (nI b) = some (Hq X (ts ++ [.inr (5, [LI (nI a), LI (nI b), LR (some (9 + ts.length)), LI 0]), .inl (0, a * b, .inl fun _ => 0)]) (z + a * b)) := by
  unfold f_X5_init b_X5_init
  refine (if_pos (u0_isO (by show ts.length + 1 ≤ 54; omega))).trans ?_
  refine (bnd_eq (u0_pF (by show 0 < 4; decide) (by show ts.length + 1 ≤ 54; omega))).trans ?_
  refine (bnd_eq (u0_pF (by show 1 < 4; decide) (by show ts.length + 1 ≤ 54; omega))).trans ?_
  rw [nI_ml, mmx_n (by omega), u_hn]
  refine (bnd_eq (u_nI (by show ts.length + 1 < 54; omega) hab)).trans ?_
  refine (bnd_eq (u0_pF (by show 2 < 4; decide) (by show ts.length + 2 ≤ 54; omega))).trans ?_
  refine (bnd_eq (u0_pF (by show 3 < 4; decide) (by show ts.length + 2 ≤ 54; omega))).trans ?_
  rw [show 9 + ts.length = 8 + (ts.length + 1) by omega]
  rfl
theorem i_X7 {t : Option Nat} (h : ts.length < 50) : f_X7_init (Hq X (ts ++ [.inr (7, [LR none, LR none, LR none, LR none, LI 0, LI 0, LI 0, LI 0, LI 0])]) z) (some (8 + ts.length)) t = some (Hq X (ts ++ [.inr (7, [LR t, LR (some (8 + (ts.length + 1))), LR (some (8 + (ts.length + 2))), LR (some (8 + (ts.length + 3))), LI 0, LI 0, LI 0, LI 0, LI 0]), .inl (0, 601, .inl fun _ => 0), .inl (0, 601, .inl fun _ => 0), .inl (0, 601, .inl fun _ => 0)]) (z + 601 + 601 + 601)) := by
  unfold f_X7_init b_X7_init
  refine (if_pos (u0_isO (by show ts.length + 1 ≤ 54; omega))).trans ?_
  refine (bnd_eq (u0_pF (by show 0 < 9; decide) (by show ts.length + 1 ≤ 54; omega))).trans ?_
  rw [u_hn]
  refine (bnd_eq (u_nI (n := 601) (by show ts.length + 1 < 54; omega) (by decide))).trans ?_
  refine (bnd_eq (u0_pF (by show 1 < 9; decide) (by show ts.length + 2 ≤ 54; omega))).trans ?_
  rw [u_hn]
  refine (bnd_eq (u_nI (n := 601) (by show ts.length + 2 < 54; omega) (by decide))).trans ?_
  refine (bnd_eq (u0_pF (by show 2 < 9; decide) (by show ts.length + 3 ≤ 54; omega))).trans ?_
  rw [u_hn]
  refine (bnd_eq (u_nI (n := 601) (by show ts.length + 3 < 54; omega) (by decide))).trans ?_
  refine (bnd_eq (u0_pF (by show 3 < 9; decide) (by show ts.length + 4 ≤ 54; omega))).trans ?_
  refine (bnd_eq (u0_pF (by show 4 < 9; decide) (by show ts.length + 4 ≤ 54; omega))).trans ?_
  refine (bnd_eq (u0_pF (by show 5 < 9; decide) (by show ts.length + 4 ≤ 54; omega))).trans ?_
  refine (bnd_eq (u0_pF (by show 6 < 9; decide) (by show ts.length + 4 ≤ 54; omega))).trans ?_
  refine (bnd_eq (u0_pF (by show 7 < 9; decide) (by show ts.length + 4 ≤ 54; omega))).trans ?_
  exact bnd_eq (u0_pF (by show 8 < 9; decide) (by show ts.length + 4 ≤ 54; omega))
theorem i_X9 (h : ts.length < 50) : f_X9_init (Hq X (ts ++ [.inr (9, [LR none, LI 0, LI 0, LI 0, LI 0, LI 0, LI 0, LI 0, LI 0, LI 0, LI 0, LI 0])]) z) (some (8 + ts.length)) = some (Hq X (ts ++ [.inr (9, [LR (some (9 + ts.length)), LI 0, LI 0, LI 0, LI 0, LI 0, LI 0, LI 0, LI 0, LI 0, LI 0, LI 0]), .inl (0, 16, .inl fun _ => 0)]) (z + 16)) := by
  unfold f_X9_init b_X9_init
  refine (if_pos (u0_isO (by show ts.length + 1 ≤ 54; omega))).trans ?_
  rw [u_hn]
  refine (bnd_eq (u_nI (n := 16) (by show ts.length + 1 < 54; omega) (by decide))).trans ?_
  refine (bnd_eq (u0_pF (by show 0 < 12; decide) (by show ts.length + 2 ≤ 54; omega))).trans ?_
  rw [show 9 + ts.length = 8 + (ts.length + 1) by omega]
  rfl
theorem i_X4 (h : ts.length < 49) : f_X4_init (Hq X (ts ++ [.inr (4, [LR none, LR none, LI 0, LI 0, LI 0, LI 0, LI 0, LI 0])]) z) (some (8 + ts.length)) = some (Hq X (ts ++ [.inr (4, [LR (some (9 + ts.length)), LR (some (10 + ts.length)), LI 0, LI 0, LI 0, LI 0, LI 0, LI 0]), .inl (0, 200, .inl fun _ => 0), .inl (0, 200, .inl fun _ => 0)]) (z + 200 + 200)) := by
  unfold f_X4_init b_X4_init
  refine (if_pos (u0_isO (by show ts.length + 1 ≤ 54; omega))).trans ?_
  rw [u_hn]
  refine (bnd_eq (u_nI (n := 200) (by show ts.length + 1 < 54; omega) (by decide))).trans ?_
  refine (bnd_eq (u0_pF (by show 0 < 8; decide) (by show ts.length + 2 ≤ 54; omega))).trans ?_
  rw [u_hn]
  refine (bnd_eq (u_nI (n := 200) (by show ts.length + 2 < 54; omega) (by decide))).trans ?_
  refine (bnd_eq (u0_pF (by show 1 < 8; decide) (by show ts.length + 3 ≤ 54; omega))).trans ?_
  rw [show 9 + ts.length = 8 + (ts.length + 1) by omega, show 10 + ts.length = 8 + (ts.length + 2) by omega]
  rfl
theorem ad_0 {N : Nat} {A : LH} {v1 : Option Nat} {v3 : Int32} : ∀ (d i m : Nat), i + d = 12 → d < m → l_X3_addLines_5 N m A 0 v1 v3 (nI i) = some (v3, A) := by
  intro d
  induction d with
  | zero =>
    intro i m hi hm
    obtain ⟨m', rfl⟩ : ∃ m', m = m' + 1 := ⟨m - 1, by omega⟩
    show b_X3_addLines_5 N _ _ _ _ _ _ = _
    unfold b_X3_addLines_5
    exact if_pos (show nI 12 ≤ nI i from nI_le (by omega) (by omega))
  | succ d ih =>
    intro i m hi hm
    obtain ⟨m', rfl⟩ : ∃ m', m = m' + 1 := ⟨m - 1, by omega⟩
    have hb : f_X10_hasBit 0 (nI i) = some 0 := by
      have : ∀ i : Fin 12, f_X10_hasBit 0 (nI i.val) = some 0 := by decide
      exact this ⟨i, by omega⟩
    show b_X3_addLines_5 N _ _ _ _ _ _ = _
    unfold b_X3_addLines_5
    refine (if_neg (show ¬ nI 12 ≤ nI i from nI_ge (by omega) (by decide))).trans ((bnd_eq hb).trans ((if_pos rfl).trans ?_))
    rw [nI_1]
    exact ih (i + 1) m' (by omega) (by omega)
end INJ
