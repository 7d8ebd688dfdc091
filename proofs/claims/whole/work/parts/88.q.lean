/-! both constructors, run: Told, the class, the reference -/
section INL
variable {X : XS} {tl ts us : List LC} {z N : Nat}
theorem u_sR {t n i k v ci : Nat} {f : Nat → Option Nat} {fs : List LV} {j : Nat} (h : us[i]? = some (.inl (t, n, .inr f))) (hk : k < n) (hn : n < 2 ^ 31) (h2 : us[j]? = some (.inr (ci, fs))) (h51 : ts.length + us.length ≤ 54) (hv : v = 8 + (ts.length + j)) : sR (Hq X (ts ++ us) z) (some (8 + (ts.length + i))) t ci (nI k) (some v) = some (Hq X (ts ++ us.set i (.inl (t, n, .inr (va_up f k (some v))))) z) := by
  have e1 : (ts ++ us)[ts.length + i]? = some (.inl (t, n, .inr f)) := by
    rw [List.getElem?_append_right (by omega), Nat.add_sub_cancel_left]; exact h
  have e2 : (ts ++ us)[ts.length + j]? = some (.inr (ci, fs)) := by
    rw [List.getElem?_append_right (by omega), Nat.add_sub_cancel_left]; exact h2
  have l51 : (ts ++ us).length ≤ 54 := by rw [List.length_append]; exact h51
  rw [hv, sR_at (q_gc e1 l51) hk hn (by omega) (q_gc e2 l51) (by omega), q_sc (at_lt e1) l51, List.set_append_right _ _ (by omega), Nat.add_sub_cancel_left]
theorem u_gR {ci k i : Nat} {fs : List LV} {v : Option Nat} (h : us[i]? = some (.inr (ci, fs))) (hk : fs[k]? = some (LR v)) (h51 : ts.length + us.length ≤ 54) : gR (Hq X (ts ++ us) z) (some (8 + (ts.length + i))) ci k = some v := by
  have e1 : (ts ++ us)[ts.length + i]? = some (.inr (ci, fs)) := by
    rw [List.getElem?_append_right (by omega), Nat.add_sub_cancel_left]; exact h
  exact gR_at (q_gc e1 (by rw [List.length_append]; exact h51)) hk
theorem i70_s {k : LH → Option Nat → Option Nat → Int32 → Option LH} {A A1 : LH} {q q1 v : Option Nat} {i : Int32} (h : ¬ (4 : Int32) ≤ i) (h1 : gR A q 8 3 = some q1) (h2 : sR A q1 4 3 i v = some A1) : b_X8_init_70 N k A q v i = k A1 q v (i + 1) := by
  unfold b_X8_init_70
  exact (if_neg h).trans ((bnd_eq h1).trans (bnd_eq h2))
theorem i_70 (hN : 20 ≤ N) (h : ts.length < 40) {a b c : LV} {a1 b1 c1 a2 b2 c2 o24 o25 : LC} {w1 w2 : LV} : l_X8_init_70 N N (Hq X (ts ++ [.inr (8, [a, b, c, LR (some (8 + (ts.length + 7)))]), a1, a2, b1, b2, c1, c2, .inl (4, 4, .inr fun _ => none), .inr (3, [LI 0, w1, w2]), o24, o25]) z) (some (8 + ts.length)) (some (8 + (ts.length + 8))) 0 = some (Hq X (ts ++ [.inr (8, [a, b, c, LR (some (8 + (ts.length + 7)))]), a1, a2, b1, b2, c1, c2, .inl (4, 4, .inr (va_up (va_up (va_up (va_up (fun _ => none) 0 (some (8 + (ts.length + 8)))) 1 (some (8 + (ts.length + 8)))) 2 (some (8 + (ts.length + 8)))) 3 (some (8 + (ts.length + 8))))), .inr (3, [LI 0, w1, w2]), o24, o25]) z) := by
  obtain ⟨m, rfl⟩ : ∃ m, N = m + 5 := ⟨N - 5, by omega⟩
  have st : ∀ (f : Nat → Option Nat) (i m' : Nat), i < 4 → l_X8_init_70 (m + 5) (m' + 1) (Hq X (ts ++ [.inr (8, [a, b, c, LR (some (8 + (ts.length + 7)))]), a1, a2, b1, b2, c1, c2, .inl (4, 4, .inr f), .inr (3, [LI 0, w1, w2]), o24, o25]) z) (some (8 + ts.length)) (some (8 + (ts.length + 8))) (nI i) = l_X8_init_70 (m + 5) m' (Hq X (ts ++ [.inr (8, [a, b, c, LR (some (8 + (ts.length + 7)))]), a1, a2, b1, b2, c1, c2, .inl (4, 4, .inr (va_up f i (some (8 + (ts.length + 8))))), .inr (3, [LI 0, w1, w2]), o24, o25]) z) (some (8 + ts.length)) (some (8 + (ts.length + 8))) (nI (i + 1)) := fun f i m' hi => by
    have g := u_gR (X := X) (z := z) (ts := ts) (us := [.inr (8, [a, b, c, LR (some (8 + (ts.length + 7)))]), a1, a2, b1, b2, c1, c2, .inl (4, 4, .inr f), .inr (3, [LI 0, w1, w2]), o24, o25]) (i := 0) (k := 3) rfl rfl (by show ts.length + 11 ≤ 54; omega)
    have s := u_sR (X := X) (z := z) (ts := ts) (us := [.inr (8, [a, b, c, LR (some (8 + (ts.length + 7)))]), a1, a2, b1, b2, c1, c2, .inl (4, 4, .inr f), .inr (3, [LI 0, w1, w2]), o24, o25]) (i := 7) (k := i) (j := 8) (ci := 3) rfl hi (by decide) rfl (by show ts.length + 11 ≤ 54; omega) rfl
    show b_X8_init_70 (m + 5) _ _ _ _ _ = _
    refine (i70_s (show ¬ nI 4 ≤ nI i from nI_ge hi (by decide)) g s).trans ?_
    rw [nI_1]
    rfl
  have s0 := st (fun _ => none) 0 (m + 4) (by decide)
  have s1 := st (va_up (fun _ => none) 0 (some (8 + (ts.length + 8)))) 1 (m + 3) (by decide)
  have s2 := st (va_up (va_up (fun _ => none) 0 (some (8 + (ts.length + 8)))) 1 (some (8 + (ts.length + 8)))) 2 (m + 2) (by decide)
  have s3 := st (va_up (va_up (va_up (fun _ => none) 0 (some (8 + (ts.length + 8)))) 1 (some (8 + (ts.length + 8)))) 2 (some (8 + (ts.length + 8)))) 3 (m + 1) (by decide)
  refine s0.trans (s1.trans (s2.trans (s3.trans ?_)))
  show b_X8_init_70 (m + 5) _ _ _ _ _ = _
  unfold b_X8_init_70
  exact if_pos (by decide)
theorem i_X8 (hN : 20 ≤ N) (h : ts.length < 30) : ∃ z', f_X8_init N (Hq X (ts ++ [.inr (8, [LR none, LR none, LR none, LR none])]) z) (some (8 + ts.length)) = some (Hq X (ts ++ [.inr (8, [LR (some (8 + (ts.length + 1))), LR (some (8 + (ts.length + 3))), LR (some (8 + (ts.length + 5))), LR (some (8 + (ts.length + 7)))]), .inr (5, [LI 2, LI 16, LR (some (8 + (ts.length + 2))), LI 0]), .inl (0, 32, .inl fun _ => 0), .inr (5, [LI 3, LI 16, LR (some (8 + (ts.length + 4))), LI 0]), .inl (0, 48, .inl fun _ => 0), .inr (5, [LI 5, LI 200, LR (some (8 + (ts.length + 6))), LI 0]), .inl (0, 1000, .inl fun _ => 0), .inl (4, 4, .inr (va_up (va_up (va_up (va_up (fun _ => none) 0 (some (8 + (ts.length + 8)))) 1 (some (8 + (ts.length + 8)))) 2 (some (8 + (ts.length + 8)))) 3 (some (8 + (ts.length + 8))))), .inr (3, [LI 0, LR (some (8 + (ts.length + 9))), LR (some (8 + (ts.length + 10)))]), .inl (3, 0, .inr fun _ => none), .inl (0, 0, .inl fun _ => 0)]) z') ∧ z' ≤ z + 2000 := by
  have n9 : ∀ k : Nat, 9 + (ts.length + k) = 8 + (ts.length + (k + 1)) := fun k => by omega
  have i5a := i_X5 (X := X) (ts := ts ++ [.inr (8, [LR none, LR none, LR none, LR none])]) (z := z + 4) (a := 2) (b := 16) (by rw [List.length_append]; show ts.length + 1 < 50; omega) (by decide)
  rw [List.length_append, List.append_assoc, List.append_assoc, show 9 + (ts.length + ([.inr (8, [LR none, LR none, LR none, LR none])] : List LC).length) = 8 + (ts.length + 2) from n9 1] at i5a
  have i5b := i_X5 (X := X) (ts := ts ++ [.inr (8, [LR (some (8 + (ts.length + 1))), LR none, LR none, LR none]), .inr (5, [LI 2, LI 16, LR (some (8 + (ts.length + 2))), LI 0]), .inl (0, 32, .inl fun _ => 0)]) (z := z + 4 + 32 + 4) (a := 3) (b := 16) (by rw [List.length_append]; show ts.length + 3 < 50; omega) (by decide)
  rw [List.length_append, List.append_assoc, List.append_assoc, show 9 + (ts.length + ([.inr (8, [LR (some (8 + (ts.length + 1))), LR none, LR none, LR none]), .inr (5, [LI 2, LI 16, LR (some (8 + (ts.length + 2))), LI 0]), .inl (0, 32, .inl fun _ => 0)] : List LC).length) = 8 + (ts.length + 4) from n9 3] at i5b
  have i5c := i_X5 (X := X) (ts := ts ++ [.inr (8, [LR (some (8 + (ts.length + 1))), LR (some (8 + (ts.length + 3))), LR none, LR none]), .inr (5, [LI 2, LI 16, LR (some (8 + (ts.length + 2))), LI 0]), .inl (0, 32, .inl fun _ => 0), .inr (5, [LI 3, LI 16, LR (some (8 + (ts.length + 4))), LI 0]), .inl (0, 48, .inl fun _ => 0)]) (z := z + 4 + 32 + 4 + 48 + 4) (a := 5) (b := 200) (by rw [List.length_append]; show ts.length + 5 < 50; omega) (by decide)
  rw [List.length_append, List.append_assoc, List.append_assoc, show 9 + (ts.length + ([.inr (8, [LR (some (8 + (ts.length + 1))), LR (some (8 + (ts.length + 3))), LR none, LR none]), .inr (5, [LI 2, LI 16, LR (some (8 + (ts.length + 2))), LI 0]), .inl (0, 32, .inl fun _ => 0), .inr (5, [LI 3, LI 16, LR (some (8 + (ts.length + 4))), LI 0]), .inl (0, 48, .inl fun _ => 0)] : List LC).length) = 8 + (ts.length + 6) from n9 5] at i5c
  have i3 := i_X3 (X := X) (N := N) (ts := ts ++ [.inr (8, [LR (some (8 + (ts.length + 1))), LR (some (8 + (ts.length + 3))), LR (some (8 + (ts.length + 5))), LR (some (8 + (ts.length + 7)))]), .inr (5, [LI 2, LI 16, LR (some (8 + (ts.length + 2))), LI 0]), .inl (0, 32, .inl fun _ => 0), .inr (5, [LI 3, LI 16, LR (some (8 + (ts.length + 4))), LI 0]), .inl (0, 48, .inl fun _ => 0), .inr (5, [LI 5, LI 200, LR (some (8 + (ts.length + 6))), LI 0]), .inl (0, 1000, .inl fun _ => 0), .inl (4, 4, .inr fun _ => none)]) (z := z + 4 + 32 + 4 + 48 + 4 + 1000 + 4 + 3 + 0) hN (by rw [List.length_append]; show ts.length + 8 < 40; omega)
  rw [List.length_append, List.append_assoc, List.append_assoc] at i3
  have i3' : f_X3_init N (Hq X (ts ++ [.inr (8, [LR (some (8 + (ts.length + 1))), LR (some (8 + (ts.length + 3))), LR (some (8 + (ts.length + 5))), LR (some (8 + (ts.length + 7)))]), .inr (5, [LI 2, LI 16, LR (some (8 + (ts.length + 2))), LI 0]), .inl (0, 32, .inl fun _ => 0), .inr (5, [LI 3, LI 16, LR (some (8 + (ts.length + 4))), LI 0]), .inl (0, 48, .inl fun _ => 0), .inr (5, [LI 5, LI 200, LR (some (8 + (ts.length + 6))), LI 0]), .inl (0, 1000, .inl fun _ => 0), .inl (4, 4, .inr fun _ => none), .inr (3, [LI 0, LR none, LR none]), .inl (3, 0, .inr fun _ => none)]) (z + 4 + 32 + 4 + 48 + 4 + 1000 + 4 + 3 + 0)) (some (8 + (ts.length + 8))) 0 (some (8 + (ts.length + 9))) = some (Hq X (ts ++ [.inr (8, [LR (some (8 + (ts.length + 1))), LR (some (8 + (ts.length + 3))), LR (some (8 + (ts.length + 5))), LR (some (8 + (ts.length + 7)))]), .inr (5, [LI 2, LI 16, LR (some (8 + (ts.length + 2))), LI 0]), .inl (0, 32, .inl fun _ => 0), .inr (5, [LI 3, LI 16, LR (some (8 + (ts.length + 4))), LI 0]), .inl (0, 48, .inl fun _ => 0), .inr (5, [LI 5, LI 200, LR (some (8 + (ts.length + 6))), LI 0]), .inl (0, 1000, .inl fun _ => 0), .inl (4, 4, .inr fun _ => none), .inr (3, [LI 0, LR (some (8 + (ts.length + 9))), LR (some (8 + (ts.length + 10)))]), .inl (3, 0, .inr fun _ => none), .inl (0, 0, .inl fun _ => 0)]) (z + 4 + 32 + 4 + 48 + 4 + 1000 + 4 + 3 + 0 + 0)) := i3
  refine ⟨z + 4 + 32 + 4 + 48 + 4 + 1000 + 4 + 3 + 0 + 0, ?_, by omega⟩
  unfold f_X8_init b_X8_init
  refine (if_pos (u0_isO (by show ts.length + 1 ≤ 54; omega))).trans ?_
  rw [u_hn, u_al (by show ts.length + 1 < 54; omega)]
  refine (bnd_eq i5a).trans ?_
  refine (bnd_eq (u0_pF (by show 0 < 4; decide) (by show ts.length + 3 ≤ 54; omega))).trans ?_
  rw [u_hn, u_al (by show ts.length + 3 < 54; omega)]
  refine (bnd_eq i5b).trans ?_
  refine (bnd_eq (u0_pF (by show 1 < 4; decide) (by show ts.length + 5 ≤ 54; omega))).trans ?_
  rw [u_hn, u_al (by show ts.length + 5 < 54; omega)]
  refine (bnd_eq i5c).trans ?_
  refine (bnd_eq (u0_pF (by show 2 < 4; decide) (by show ts.length + 7 ≤ 54; omega))).trans ?_
  rw [u_hn]
  refine (bnd_eq (u_nR (n := 4) (by show ts.length + 7 < 54; omega) (by decide))).trans ?_
  refine (bnd_eq (u0_pF (by show 3 < 4; decide) (by show ts.length + 8 ≤ 54; omega))).trans ?_
  rw [u_hn, u_al (by show ts.length + 8 < 54; omega), u_hn]
  refine (bnd_eq (u_nR (n := 0) (by show ts.length + 9 < 54; omega) (by decide))).trans ?_
  refine (bnd_eq i3').trans ?_
  exact i_70 hN (by omega)
end INL
