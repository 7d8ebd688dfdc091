/-! both constructors, run: the reference -/
section INN
variable {X : XS} {ts : List LC} {z : Nat}

theorem i_X11 (h : ts.length < 25) : f_X11_init (Hq X (ts ++ [.inr (11, [LI 0, LR none, LI 0, LR none, LR none, LR none, LR none, LR none, LR none, LR none, LR none, LR none, LR none, LR none, LR none, LR none, LR none, LR none, LI 0, LI 0, LI 0, LI 0, LI 0, LJ 0, LI 0, LI 0, LI 0, LI 0, LI 0, LI 0, LI 0, LI 0, LR none, LR none, LR none, LI 0, LI 0, LR none, LR none, LI 0, LI 0, LI 0, LI 0, LI 0, LI 0, LR none, LR none, LR none, LR none, LR none])]) z) (some (8 + ts.length)) = some (Hq X (ts ++ [.inr (11, [LI 0, LR (some (8 + (ts.length + 1))), LI 0, LR (some (8 + (ts.length + 2))), LR (some (8 + (ts.length + 3))), LR (some (8 + (ts.length + 4))), LR (some (8 + (ts.length + 5))), LR (some (8 + (ts.length + 6))), LR (some (8 + (ts.length + 7))), LR (some (8 + (ts.length + 8))), LR (some (8 + (ts.length + 9))), LR (some (8 + (ts.length + 10))), LR (some (8 + (ts.length + 11))), LR (some (8 + (ts.length + 12))), LR (some (8 + (ts.length + 13))), LR (some (8 + (ts.length + 14))), LR (some (8 + (ts.length + 15))), LR (some (8 + (ts.length + 16))), LI 0, LI 0, LI 0, LI 0, LI 0, LJ 0, LI 0, LI (-1), LI 0, LI 0, LI 0, LI 0, LI 0, LI 0, LR (some (8 + (ts.length + 17))), LR (some (8 + (ts.length + 18))), LR (some (8 + (ts.length + 19))), LI 0, LI 0, LR (some (8 + (ts.length + 20))), LR (some (8 + (ts.length + 21))), LI 0, LI 0, LI 0, LI 0, LI 0, LI 0, LR (some (8 + (ts.length + 22))), LR (some (8 + (ts.length + 23))), LR (some (8 + (ts.length + 24))), LR (some (8 + (ts.length + 25))), LR (some (8 + (ts.length + 26)))]), .inl (1, 600, .inl fun _ => 0), .inl (0, 4, .inl fun _ => 0), .inl (0, 64, .inl fun _ => 0), .inl (0, 64, .inl fun _ => 0), .inl (0, 4, .inl fun _ => 0), .inl (0, 64, .inl fun _ => 0), .inl (0, 64, .inl fun _ => 0), .inl (0, 64, .inl fun _ => 0), .inl (0, 4, .inl fun _ => 0), .inl (0, 3200, .inl fun _ => 0), .inl (0, 800, .inl fun _ => 0), .inl (0, 16, .inl fun _ => 0), .inl (0, 16, .inl fun _ => 0), .inl (0, 1536, .inl fun _ => 0), .inl (1, 14400, .inl fun _ => 0), .inl (0, 14400, .inl fun _ => 0), .inl (0, 104, .inl fun _ => 0), .inl (1, 900, .inl fun _ => 0), .inl (0, 900, .inl fun _ => 0), .inl (0, 4, .inl fun _ => 0), .inl (0, 64, .inl fun _ => 0), .inl (0, 3, .inl fun _ => 0), .inl (0, 3, .inl fun _ => 0), .inl (0, 3, .inl fun _ => 0), .inl (0, 3, .inl fun _ => 0), .inl (2, 3, .inl fun _ => 0)]) (z + 600 + 4 + 64 + 64 + 4 + 64 + 64 + 64 + 4 + 3200 + 800 + 16 + 16 + 1536 + 14400 + 14400 + 104 + 900 + 900 + 4 + 64 + 3 + 3 + 3 + 3 + 3)) := by
  unfold f_X11_init b_X11_init
  refine (if_pos (u0_isO (by show ts.length + 1 ≤ 51; omega))).trans ?_
  rw [u_hn]
  refine (bnd_eq (u_nI (n := 600) (by show ts.length + 1 < 51; omega) (by decide))).trans ?_
  refine (bnd_eq (u0_pF (by show 1 < 50; decide) (by show ts.length + 2 ≤ 51; omega))).trans ?_
  rw [u_hn]
  refine (bnd_eq (u_nI (n := 4) (by show ts.length + 2 < 51; omega) (by decide))).trans ?_
  refine (bnd_eq (u0_pF (by show 3 < 50; decide) (by show ts.length + 3 ≤ 51; omega))).trans ?_
  rw [u_hn]
  refine (bnd_eq (u_nI (n := 64) (by show ts.length + 3 < 51; omega) (by decide))).trans ?_
  refine (bnd_eq (u0_pF (by show 4 < 50; decide) (by show ts.length + 4 ≤ 51; omega))).trans ?_
  rw [u_hn]
  refine (bnd_eq (u_nI (n := 64) (by show ts.length + 4 < 51; omega) (by decide))).trans ?_
  refine (bnd_eq (u0_pF (by show 5 < 50; decide) (by show ts.length + 5 ≤ 51; omega))).trans ?_
  rw [u_hn]
  refine (bnd_eq (u_nI (n := 4) (by show ts.length + 5 < 51; omega) (by decide))).trans ?_
  refine (bnd_eq (u0_pF (by show 6 < 50; decide) (by show ts.length + 6 ≤ 51; omega))).trans ?_
  rw [u_hn]
  refine (bnd_eq (u_nI (n := 64) (by show ts.length + 6 < 51; omega) (by decide))).trans ?_
  refine (bnd_eq (u0_pF (by show 7 < 50; decide) (by show ts.length + 7 ≤ 51; omega))).trans ?_
  rw [u_hn]
  refine (bnd_eq (u_nI (n := 64) (by show ts.length + 7 < 51; omega) (by decide))).trans ?_
  refine (bnd_eq (u0_pF (by show 8 < 50; decide) (by show ts.length + 8 ≤ 51; omega))).trans ?_
  rw [u_hn]
  refine (bnd_eq (u_nI (n := 64) (by show ts.length + 8 < 51; omega) (by decide))).trans ?_
  refine (bnd_eq (u0_pF (by show 9 < 50; decide) (by show ts.length + 9 ≤ 51; omega))).trans ?_
  rw [u_hn]
  refine (bnd_eq (u_nI (n := 4) (by show ts.length + 9 < 51; omega) (by decide))).trans ?_
  refine (bnd_eq (u0_pF (by show 10 < 50; decide) (by show ts.length + 10 ≤ 51; omega))).trans ?_
  rw [u_hn]
  refine (bnd_eq (u_nI (n := 3200) (by show ts.length + 10 < 51; omega) (by decide))).trans ?_
  refine (bnd_eq (u0_pF (by show 11 < 50; decide) (by show ts.length + 11 ≤ 51; omega))).trans ?_
  rw [u_hn]
  refine (bnd_eq (u_nI (n := 800) (by show ts.length + 11 < 51; omega) (by decide))).trans ?_
  refine (bnd_eq (u0_pF (by show 12 < 50; decide) (by show ts.length + 12 ≤ 51; omega))).trans ?_
  rw [u_hn]
  refine (bnd_eq (u_nI (n := 16) (by show ts.length + 12 < 51; omega) (by decide))).trans ?_
  refine (bnd_eq (u0_pF (by show 13 < 50; decide) (by show ts.length + 13 ≤ 51; omega))).trans ?_
  rw [u_hn]
  refine (bnd_eq (u_nI (n := 16) (by show ts.length + 13 < 51; omega) (by decide))).trans ?_
  refine (bnd_eq (u0_pF (by show 14 < 50; decide) (by show ts.length + 14 ≤ 51; omega))).trans ?_
  rw [u_hn]
  refine (bnd_eq (u_nI (n := 1536) (by show ts.length + 14 < 51; omega) (by decide))).trans ?_
  refine (bnd_eq (u0_pF (by show 15 < 50; decide) (by show ts.length + 15 ≤ 51; omega))).trans ?_
  rw [u_hn]
  refine (bnd_eq (u_nI (n := 14400) (by show ts.length + 15 < 51; omega) (by decide))).trans ?_
  refine (bnd_eq (u0_pF (by show 16 < 50; decide) (by show ts.length + 16 ≤ 51; omega))).trans ?_
  rw [u_hn]
  refine (bnd_eq (u_nI (n := 14400) (by show ts.length + 16 < 51; omega) (by decide))).trans ?_
  refine (bnd_eq (u0_pF (by show 17 < 50; decide) (by show ts.length + 17 ≤ 51; omega))).trans ?_
  refine (bnd_eq (u0_pF (by show 25 < 50; decide) (by show ts.length + 17 ≤ 51; omega))).trans ?_
  rw [u_hn]
  refine (bnd_eq (u_nI (n := 104) (by show ts.length + 17 < 51; omega) (by decide))).trans ?_
  refine (bnd_eq (u0_pF (by show 32 < 50; decide) (by show ts.length + 18 ≤ 51; omega))).trans ?_
  rw [u_hn]
  refine (bnd_eq (u_nI (n := 900) (by show ts.length + 18 < 51; omega) (by decide))).trans ?_
  refine (bnd_eq (u0_pF (by show 33 < 50; decide) (by show ts.length + 19 ≤ 51; omega))).trans ?_
  rw [u_hn]
  refine (bnd_eq (u_nI (n := 900) (by show ts.length + 19 < 51; omega) (by decide))).trans ?_
  refine (bnd_eq (u0_pF (by show 34 < 50; decide) (by show ts.length + 20 ≤ 51; omega))).trans ?_
  rw [u_hn]
  refine (bnd_eq (u_nI (n := 4) (by show ts.length + 20 < 51; omega) (by decide))).trans ?_
  refine (bnd_eq (u0_pF (by show 37 < 50; decide) (by show ts.length + 21 ≤ 51; omega))).trans ?_
  rw [u_hn]
  refine (bnd_eq (u_nI (n := 64) (by show ts.length + 21 < 51; omega) (by decide))).trans ?_
  refine (bnd_eq (u0_pF (by show 38 < 50; decide) (by show ts.length + 22 ≤ 51; omega))).trans ?_
  rw [u_hn]
  refine (bnd_eq (u_nI (n := 3) (by show ts.length + 22 < 51; omega) (by decide))).trans ?_
  refine (bnd_eq (u0_pF (by show 45 < 50; decide) (by show ts.length + 23 ≤ 51; omega))).trans ?_
  rw [u_hn]
  refine (bnd_eq (u_nI (n := 3) (by show ts.length + 23 < 51; omega) (by decide))).trans ?_
  refine (bnd_eq (u0_pF (by show 46 < 50; decide) (by show ts.length + 24 ≤ 51; omega))).trans ?_
  rw [u_hn]
  refine (bnd_eq (u_nI (n := 3) (by show ts.length + 24 < 51; omega) (by decide))).trans ?_
  refine (bnd_eq (u0_pF (by show 47 < 50; decide) (by show ts.length + 25 ≤ 51; omega))).trans ?_
  rw [u_hn]
  refine (bnd_eq (u_nI (n := 3) (by show ts.length + 25 < 51; omega) (by decide))).trans ?_
  refine (bnd_eq (u0_pF (by show 48 < 50; decide) (by show ts.length + 26 ≤ 51; omega))).trans ?_
  rw [u_hn]
  refine (bnd_eq (u_nI (n := 3) (by show ts.length + 26 < 51; omega) (by decide))).trans ?_
  refine (bnd_eq (u0_pF (by show 49 < 50; decide) (by show ts.length + 27 ≤ 51; omega))).trans ?_
  rfl
theorem fin_hp {z : Nat} : Hq X ([.inr (10, [LR (some 9), LR (some 11), LR (some 15), LR (some 26), LR (some 27), LR (some 29), LR none, LI 0, LI (-1)]), .inr (6, [LR (some 10), LI 0]), .inl (0, 600, .inl fun _ => 0), .inr (2, [LR (some 12), LR (some 13), LR (some 14), LI 0, LI 0, LI 0, LI (-1)]), .inr (7, [LR (some 9), LI 0, LI 0, LI 0, LI 0]), .inl (3, 12, .inr fun _ => none), .inl (0, 600, .inl fun _ => 0), .inr (8, [LR (some 16), LR (some 18), LR (some 20), LR (some 22)]), .inr (5, [LI 2, LI 16, LR (some 17), LI 0]), .inl (0, 32, .inl fun _ => 0), .inr (5, [LI 3, LI 16, LR (some 19), LI 0]), .inl (0, 48, .inl fun _ => 0), .inr (5, [LI 5, LI 200, LR (some 21), LI 0]), .inl (0, 1000, .inl fun _ => 0), .inl (4, 4, .inr (va_up (va_up (va_up (va_up (fun _ => none) 0 (some 23)) 1 (some 23)) 2 (some 23)) 3 (some 23))), .inr (3, [LI 0, LR (some 24), LR (some 25)]), .inl (3, 0, .inr fun _ => none), .inl (0, 0, .inl fun _ => 0), .inl (5, 3, .inr fun _ => none), .inr (9, [LR (some 28), LI 0, LI 0, LI 0, LI 0, LI 0, LI 0, LI 0, LI 0, LI 0, LI 0, LI 0]), .inl (0, 16, .inl fun _ => 0), .inr (4, [LR (some 30), LR (some 31), LI 0, LI 0, LI 0, LI 0, LI 0, LI 0]), .inl (0, 200, .inl fun _ => 0), .inl (0, 200, .inl fun _ => 0)] ++ [.inr (11, [LI 0, LR (some (8 + (24 + 1))), LI 0, LR (some (8 + (24 + 2))), LR (some (8 + (24 + 3))), LR (some (8 + (24 + 4))), LR (some (8 + (24 + 5))), LR (some (8 + (24 + 6))), LR (some (8 + (24 + 7))), LR (some (8 + (24 + 8))), LR (some (8 + (24 + 9))), LR (some (8 + (24 + 10))), LR (some (8 + (24 + 11))), LR (some (8 + (24 + 12))), LR (some (8 + (24 + 13))), LR (some (8 + (24 + 14))), LR (some (8 + (24 + 15))), LR (some (8 + (24 + 16))), LI 0, LI 0, LI 0, LI 0, LI 0, LJ 0, LI 0, LI (-1), LI 0, LI 0, LI 0, LI 0, LI 0, LI 0, LR (some (8 + (24 + 17))), LR (some (8 + (24 + 18))), LR (some (8 + (24 + 19))), LI 0, LI 0, LR (some (8 + (24 + 20))), LR (some (8 + (24 + 21))), LI 0, LI 0, LI 0, LI 0, LI 0, LI 0, LR (some (8 + (24 + 22))), LR (some (8 + (24 + 23))), LR (some (8 + (24 + 24))), LR (some (8 + (24 + 25))), LR (some (8 + (24 + 26)))]), .inl (1, 600, .inl fun _ => 0), .inl (0, 4, .inl fun _ => 0), .inl (0, 64, .inl fun _ => 0), .inl (0, 64, .inl fun _ => 0), .inl (0, 4, .inl fun _ => 0), .inl (0, 64, .inl fun _ => 0), .inl (0, 64, .inl fun _ => 0), .inl (0, 64, .inl fun _ => 0), .inl (0, 4, .inl fun _ => 0), .inl (0, 3200, .inl fun _ => 0), .inl (0, 800, .inl fun _ => 0), .inl (0, 16, .inl fun _ => 0), .inl (0, 16, .inl fun _ => 0), .inl (0, 1536, .inl fun _ => 0), .inl (1, 14400, .inl fun _ => 0), .inl (0, 14400, .inl fun _ => 0), .inl (0, 104, .inl fun _ => 0), .inl (1, 900, .inl fun _ => 0), .inl (0, 900, .inl fun _ => 0), .inl (0, 4, .inl fun _ => 0), .inl (0, 64, .inl fun _ => 0), .inl (0, 3, .inl fun _ => 0), .inl (0, 3, .inl fun _ => 0), .inl (0, 3, .inl fun _ => 0), .inl (0, 3, .inl fun _ => 0), .inl (2, 3, .inl fun _ => 0)]) z = hp X C00 M00 (51, z, fun _ => ab_) := rfl
end INN
