/-! both constructors, run: the class's -/
section INK
variable {X : XS} {tl ts us : List LC} {z N : Nat}
theorem q_ln {t n j : Nat} {f : (Nat → Int32) ⊕ (Nat → Option Nat)} (h : tl[j]? = some (.inl (t, n, f))) (ht : t < 6) (h51 : tl.length ≤ 54) : ln6 (Hq X tl z) (some (8 + j)) = some (nI n) := ln6_at (q_gc h h51) ht
theorem u_ln {t n i : Nat} {f : (Nat → Int32) ⊕ (Nat → Option Nat)} (h : us[i]? = some (.inl (t, n, f))) (ht : t < 6) (h51 : ts.length + us.length ≤ 54) : ln6 (Hq X (ts ++ us) z) (some (8 + (ts.length + i))) = some (nI n) := by
  have h2 : (ts ++ us)[ts.length + i]? = some (.inl (t, n, f)) := by
    rw [List.getElem?_append_right (by omega), Nat.add_sub_cancel_left]; exact h
  exact q_ln h2 ht (by rw [List.length_append]; exact h51)
theorem u_al {c : LC} {w : Nat} (h : ts.length + us.length < 54) : al (Hq X (ts ++ us) z) c w = Hq X (ts ++ (us ++ [c])) (z + w) := by
  rw [q_al (by rw [List.length_append]; exact h), List.append_assoc]
theorem u_nR {t n : Nat} (h : ts.length + us.length < 54) (hn : n ≤ 60000000) : nR_ (Hq X (ts ++ us) z) t (nI n) = some (Hq X (ts ++ (us ++ [.inl (t, n, .inr fun _ => none)])) (z + n)) := by
  rw [q_nR (by rw [List.length_append]; exact h) hn, List.append_assoc]
theorem lets_0 {A : LH} {q : Option Nat} (hN : 20 ≤ N) (h : ln6 A q = some (nI 0)) : f_X3_letsOf N A q = some 0 := by
  obtain ⟨m, rfl⟩ : ∃ m, N = m + 1 := ⟨N - 1, by omega⟩
  show b_X3_letsOf_4 (m + 1) A (l_X3_letsOf_4 (m + 1) A m) q 0 0 = _
  unfold b_X3_letsOf_4
  exact (bnd_eq h).trans (if_pos (by decide))
theorem ord_0 {A A1 : LH} (hN : 20 ≤ N) (h : nI_ A 0 (nI 0) = some A1) : f_X3_orderOf N A 0 (((1 : Int32) <<< (nI 0 &&& 31)) - (1 : Int32)) 0 (nI 0) = some (some (8 + hn A), A1) := by
  have e0 : (((1 : Int32) <<< (nI 0 &&& 31)) - (1 : Int32)) = 0 := by decide
  have e1 : mmx (0 : Int32) (nI 0) = nI 0 := by decide
  have e2 : (0 : Int32) &&& (0 ^^^ (-1 : Int32)) = 0 := by decide
  have a0 : ∀ (v1 : Option Nat), f_X3_addLines N A1 0 v1 0 = some (0, A1) := fun v1 => ad_0 12 0 N (by decide) (by omega)
  rw [e0]
  unfold f_X3_orderOf b_X3_orderOf
  rw [e1]
  refine (bnd_eq h).trans ((if_neg (by decide)).trans ((if_pos rfl).trans ?_))
  unfold b_X3_orderOf_69
  rw [e2]
  exact (bnd_eq (a0 _)).trans (bnd_eq (a0 _))
theorem i_X3 (hN : 20 ≤ N) (h : ts.length < 40) : f_X3_init N (Hq X (ts ++ [.inr (3, [LI 0, LR none, LR none]), .inl (3, 0, .inr fun _ => none)]) z) (some (8 + ts.length)) 0 (some (8 + (ts.length + 1))) = some (Hq X (ts ++ [.inr (3, [LI 0, LR (some (8 + (ts.length + 1))), LR (some (8 + (ts.length + 2)))]), .inl (3, 0, .inr fun _ => none), .inl (0, 0, .inl fun _ => 0)]) (z + 0)) := by
  have g : ln6 (Hq X (ts ++ [.inr (3, [LI 0, LR (some (8 + (ts.length + 1))), LR none]), .inl (3, 0, .inr fun _ => none)]) z) (some (8 + (ts.length + 1))) = some (nI 0) := u_ln (us := [.inr (3, [LI 0, LR (some (8 + (ts.length + 1))), LR none]), .inl (3, 0, .inr fun _ => none)]) (i := 1) rfl (by decide) (by show ts.length + 2 ≤ 54; omega)
  have o := ord_0 (N := N) hN (u_nI (X := X) (z := z) (ts := ts) (us := [.inr (3, [LI 0, LR (some (8 + (ts.length + 1))), LR none]), .inl (3, 0, .inr fun _ => none)]) (t := 0) (n := 0) (by show ts.length + 2 < 54; omega) (by decide))
  rw [u_hn] at o
  unfold f_X3_init b_X3_init
  refine (if_pos (u0_isO (by show ts.length + 2 ≤ 54; omega))).trans ?_
  refine (bnd_eq (u0_pF (by show 0 < 3; decide) (by show ts.length + 2 ≤ 54; omega))).trans ?_
  refine (bnd_eq (u0_pF (by show 1 < 3; decide) (by show ts.length + 2 ≤ 54; omega))).trans ?_
  refine (bnd_eq g).trans ((bnd_eq (lets_0 hN g)).trans ((bnd_eq g).trans ((bnd_eq o).trans ?_)))
  exact bnd_eq (u0_pF (by show 2 < 3; decide) (by show ts.length + 3 ≤ 54; omega))
theorem i_X2 {t : Option Nat} (h : ts.length < 40) : f_X2_init (Hq X (ts ++ [.inr (2, [LR none, LR none, LR none, LI 0, LI 0, LI 0, LI 0])]) z) (some (8 + ts.length)) t = some (Hq X (ts ++ [.inr (2, [LR (some (8 + (ts.length + 1))), LR (some (8 + (ts.length + 5))), LR (some (8 + (ts.length + 6))), LI 0, LI 0, LI 0, LI (-1)]), .inr (7, [LR t, LR (some (8 + (ts.length + 2))), LR (some (8 + (ts.length + 3))), LR (some (8 + (ts.length + 4))), LI 0, LI 0, LI 0, LI 0, LI 0]), .inl (0, 601, .inl fun _ => 0), .inl (0, 601, .inl fun _ => 0), .inl (0, 601, .inl fun _ => 0), .inl (3, 12, .inr fun _ => none), .inl (0, 600, .inl fun _ => 0)]) (z + 9 + 601 + 601 + 601 + 12 + 600)) := by
  have i7 : f_X7_init (Hq X (ts ++ [.inr (2, [LR none, LR none, LR none, LI 0, LI 0, LI 0, LI 0]), .inr (7, [LR none, LR none, LR none, LR none, LI 0, LI 0, LI 0, LI 0, LI 0])]) (z + 9)) (some (8 + (ts.length + 1))) t = some (Hq X (ts ++ [.inr (2, [LR none, LR none, LR none, LI 0, LI 0, LI 0, LI 0]), .inr (7, [LR t, LR (some (8 + (ts.length + 2))), LR (some (8 + (ts.length + 3))), LR (some (8 + (ts.length + 4))), LI 0, LI 0, LI 0, LI 0, LI 0]), .inl (0, 601, .inl fun _ => 0), .inl (0, 601, .inl fun _ => 0), .inl (0, 601, .inl fun _ => 0)]) (z + 9 + 601 + 601 + 601)) := by
    have i7 := i_X7 (X := X) (ts := ts ++ [.inr (2, [LR none, LR none, LR none, LI 0, LI 0, LI 0, LI 0])]) (z := z + 9) (t := t) (by rw [List.length_append]; show ts.length + 1 < 50; omega)
    rw [List.length_append, List.append_assoc, List.append_assoc] at i7
    exact i7
  unfold f_X2_init b_X2_init
  refine (if_pos (u0_isO (by show ts.length + 1 ≤ 54; omega))).trans ?_
  rw [u_hn, u_al (by show ts.length + 1 < 54; omega)]
  refine (bnd_eq i7).trans ?_
  refine (bnd_eq (u0_pF (by show 0 < 7; decide) (by show ts.length + 5 ≤ 54; omega))).trans ?_
  rw [u_hn]
  refine (bnd_eq (u_nR (n := 12) (by show ts.length + 5 < 54; omega) (by decide))).trans ?_
  refine (bnd_eq (u0_pF (by show 1 < 7; decide) (by show ts.length + 6 ≤ 54; omega))).trans ?_
  rw [u_hn]
  refine (bnd_eq (u_nI (n := 600) (by show ts.length + 6 < 54; omega) (by decide))).trans ?_
  refine (bnd_eq (u0_pF (by show 2 < 7; decide) (by show ts.length + 7 ≤ 54; omega))).trans ?_
  refine (bnd_eq (u0_pF (by show 3 < 7; decide) (by show ts.length + 7 ≤ 54; omega))).trans ?_
  refine (bnd_eq (u0_pF (by show 4 < 7; decide) (by show ts.length + 7 ≤ 54; omega))).trans ?_
  refine (bnd_eq (u0_pF (by show 5 < 7; decide) (by show ts.length + 7 ≤ 54; omega))).trans ?_
  exact bnd_eq (u0_pF (by show 6 < 7; decide) (by show ts.length + 7 ≤ 54; omega))
end INK
