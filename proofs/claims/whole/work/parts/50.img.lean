/-! image, again -/
section IMA
theorem mmx_n {n : Nat} (h : n < 2 ^ 31) : mmx 0 (nI n) = nI n := by
  unfold mmx
  by_cases q : 0 < n
  · rw [if_pos (by rw [← nI_0]; exact nI_lt q h)]
  · rw [show n = 0 by omega]; rfl
variable {A A1 A2 A3 A4 A5 A6 A7 A8 : LH} {q r x y : Option Nat} {v1 v2 c l : Int32} {p z : Option Nat}
theorem t5_ab (h0 : isO A q 5 = true) (h1 : pF A q 5 0 (LI c) = some A1) (h2 : pF A1 q 5 1 (LI l) = some A2) (h3 : nI_ A2 0 (mmx 0 (c * l)) = some A3) (h4 : pF A3 q 5 2 (LR (some (8 + hn A2))) = some A4) (h5 : pF A4 q 5 3 (LI 0) = some A5) : f_X5_init A q c l = some A5 := by
  unfold f_X5_init b_X5_init
  (repeat (first | with_reducible rfl | refine (bnd_eq (by first | with_reducible assumption)).trans ?_ | refine (if_pos (by first | with_reducible assumption | with_reducible rfl | decide | (dsimp only; first | with_reducible assumption | with_reducible rfl | decide))).trans ?_ | refine (if_neg (by first | with_reducible assumption | decide | (dsimp only; first | with_reducible assumption | decide))).trans ?_))
theorem i70_end (N m : Nat) (h1 : 4 ≤ v2) : l_X8_init_70 N (m + 1) A q r v2 = some A := by
  show b_X8_init_70 N _ A q r v2 = _
  unfold b_X8_init_70
  (repeat (first | with_reducible rfl | refine (bnd_eq (by first | with_reducible assumption)).trans ?_ | refine (if_pos (by first | with_reducible assumption | with_reducible rfl | decide | (dsimp only; first | with_reducible assumption | with_reducible rfl | decide))).trans ?_ | refine (if_neg (by first | with_reducible assumption | decide | (dsimp only; first | with_reducible assumption | decide))).trans ?_))
theorem i70_st (N m : Nat) (h1 : ¬ 4 ≤ v2) (h2 : gR A q 8 3 = some x) (h3 : sR A x 4 3 v2 r = some A1) : l_X8_init_70 N (m + 1) A q r v2 = l_X8_init_70 N m A1 q r (v2 + 1) := by
  show b_X8_init_70 N _ A q r v2 = _
  unfold b_X8_init_70
  (repeat (first | with_reducible rfl | refine (bnd_eq (by first | with_reducible assumption)).trans ?_ | refine (if_pos (by first | with_reducible assumption | with_reducible rfl | decide | (dsimp only; first | with_reducible assumption | with_reducible rfl | decide))).trans ?_ | refine (if_neg (by first | with_reducible assumption | decide | (dsimp only; first | with_reducible assumption | decide))).trans ?_))
theorem t8_ab {N : Nat} {B1 B2 B3 B4 B5 B6 B7 B8 B9 B10 B : LH} (h0 : isO A q 8 = true) (h1 : f_X5_init (al A (.inr (5, [LI 0, LI 0, LR none, LI 0])) 4) (some (8 + hn A)) 2 16 = some B1) (h2 : pF B1 q 8 0 (LR (some (8 + hn A))) = some B2) (h3 : f_X5_init (al B2 (.inr (5, [LI 0, LI 0, LR none, LI 0])) 4) (some (8 + hn B2)) 3 16 = some B3) (h4 : pF B3 q 8 1 (LR (some (8 + hn B2))) = some B4) (h5 : f_X5_init (al B4 (.inr (5, [LI 0, LI 0, LR none, LI 0])) 4) (some (8 + hn B4)) 5 200 = some B5) (h6 : pF B5 q 8 2 (LR (some (8 + hn B4))) = some B6) (h7 : nR_ B6 4 4 = some B7) (h8 : pF B7 q 8 3 (LR (some (8 + hn B6))) = some B8) (h9 : nR_ (al B8 (.inr (3, [LI 0, LR none, LR none])) 3) 3 0 = some B9) (h10 : f_X3_init N B9 (some (8 + hn B8)) 0 (some (8 + hn (al B8 (.inr (3, [LI 0, LR none, LR none])) 3))) = some B10) (h11 : l_X8_init_70 N N B10 q (some (8 + hn B8)) 0 = some B) : f_X8_init N A q = some B := by
  unfold f_X8_init b_X8_init
  (repeat (first | with_reducible rfl | refine (bnd_eq (by first | with_reducible assumption)).trans ?_ | refine (if_pos (by first | with_reducible assumption | with_reducible rfl | decide | (dsimp only; first | with_reducible assumption | with_reducible rfl | decide))).trans ?_ | refine (if_neg (by first | with_reducible assumption | decide | (dsimp only; first | with_reducible assumption | decide))).trans ?_))
  exact h11
theorem im_f (N : Nat) (h0 : isO A q 10 = true) (h1 : f_X10_isIn v1 3 = some 0) : f_X10_image N A q v1 = some (0, A) := by
  unfold f_X10_image
  rw [if_pos h0, show b_X10_image N A q v1 = some (0, A) by unfold b_X10_image; (repeat (first | with_reducible rfl | refine (bnd_eq (by first | with_reducible assumption)).trans ?_ | refine (if_pos (by first | with_reducible assumption | with_reducible rfl | decide | (dsimp only; first | with_reducible assumption | with_reducible rfl | decide))).trans ?_ | refine (if_neg (by first | with_reducible assumption | decide | (dsimp only; first | with_reducible assumption | decide))).trans ?_))]; rfl
theorem im_old (N : Nat) {pp : Nat} (h0 : isO A q 10 = true) (h1 : f_X10_isIn v1 3 = some 1) (h2 : gR A q 10 3 = some x) (h3 : aR A x 5 v1 = some (some pp)) (h4 : gR A q 10 2 = some y) (h5 : f_X8_copyFrom N A (some pp) y = some A1) : f_X10_image N A q v1 = some (1, A1) := by
  have hne : ¬ some pp = none := fun z => nomatch z
  unfold f_X10_image
  rw [if_pos h0, show b_X10_image N A q v1 = some (1, A1) by unfold b_X10_image; (repeat (first | with_reducible rfl | refine (bnd_eq (by first | with_reducible assumption)).trans ?_ | refine (if_pos (by first | with_reducible assumption | with_reducible rfl | decide | (dsimp only; first | with_reducible assumption | with_reducible rfl | decide))).trans ?_ | refine (if_neg (by first | with_reducible assumption | decide | (dsimp only; first | with_reducible assumption | decide))).trans ?_ | unfold b_X10_image_32))]; rfl
theorem im_new (N : Nat) {pp : Nat} (h0 : isO A q 10 = true) (h1 : f_X10_isIn v1 3 = some 1) (h2 : gR A q 10 3 = some x) (h3 : aR A x 5 v1 = some none) (h4 : f_X8_init N (al A (.inr (8, [LR none, LR none, LR none, LR none])) 4) (some (8 + hn A)) = some A1) (h5 : sR A1 x 5 8 v1 (some (8 + hn A)) = some A2) (h6 : gR A2 q 10 3 = some x) (h7 : aR A2 x 5 v1 = some (some pp)) (h8 : gR A2 q 10 2 = some y) (h9 : f_X8_copyFrom N A2 (some pp) y = some A3) : f_X10_image N A q v1 = some (1, A3) := by
  unfold f_X10_image
  rw [if_pos h0, show b_X10_image N A q v1 = some (1, A3) by unfold b_X10_image; (repeat (first | with_reducible rfl | refine (bnd_eq (by first | with_reducible assumption)).trans ?_ | refine (if_pos (by first | with_reducible assumption | with_reducible rfl | decide | (dsimp only; first | with_reducible assumption | with_reducible rfl | decide))).trans ?_ | refine (if_neg (by first | with_reducible assumption | decide | (dsimp only; first | with_reducible assumption | decide))).trans ?_ | unfold b_X10_image_32))]; rfl
theorem ag_f (N : Nat) (h0 : isO A q 10 = true) (h1 : f_X10_isIn v1 3 = some 0) : f_X10_again N A q v1 = some (0, A) := by
  unfold f_X10_again
  rw [if_pos h0, show b_X10_again N A q v1 = some (0, A) by unfold b_X10_again; (repeat (first | with_reducible rfl | refine (bnd_eq (by first | with_reducible assumption)).trans ?_ | refine (if_pos (by first | with_reducible assumption | with_reducible rfl | decide | (dsimp only; first | with_reducible assumption | with_reducible rfl | decide))).trans ?_ | refine (if_neg (by first | with_reducible assumption | decide | (dsimp only; first | with_reducible assumption | decide))).trans ?_))]; rfl
theorem ag_n (N : Nat) (h0 : isO A q 10 = true) (h1 : f_X10_isIn v1 3 = some 1) (h2 : gR A q 10 3 = some x) (h3 : aR A x 5 v1 = some none) : f_X10_again N A q v1 = some (0, A) := by
  unfold f_X10_again
  rw [if_pos h0, show b_X10_again N A q v1 = some (0, A) by unfold b_X10_again; (repeat (first | with_reducible rfl | refine (bnd_eq (by first | with_reducible assumption)).trans ?_ | refine (if_pos (by first | with_reducible assumption | with_reducible rfl | decide | (dsimp only; first | with_reducible assumption | with_reducible rfl | decide))).trans ?_ | refine (if_neg (by first | with_reducible assumption | decide | (dsimp only; first | with_reducible assumption | decide))).trans ?_))]; rfl
theorem ag_t (N : Nat) {pp : Nat} (h0 : isO A q 10 = true) (h1 : f_X10_isIn v1 3 = some 1) (h2 : gR A q 10 3 = some x) (h3 : aR A x 5 v1 = some (some pp)) (h4 : gR A q 10 2 = some y) (h5 : f_X8_copyFrom N A y (some pp) = some A1) (h6 : pF A1 q 10 6 (LR none) = some A2) : f_X10_again N A q v1 = some (1, A2) := by
  have hne : ¬ some pp = none := fun z => nomatch z
  unfold f_X10_again
  rw [if_pos h0, show b_X10_again N A q v1 = some (1, A2) by unfold b_X10_again; (repeat (first | with_reducible rfl | refine (bnd_eq (by first | with_reducible assumption)).trans ?_ | refine (if_pos (by first | with_reducible assumption | with_reducible rfl | decide | (dsimp only; first | with_reducible assumption | with_reducible rfl | decide))).trans ?_ | refine (if_neg (by first | with_reducible assumption | decide | (dsimp only; first | with_reducible assumption | decide))).trans ?_))]; rfl
theorem mi_f (N : Nat) (h0 : isO A q 11 = true) (h1 : pF A q 11 0 (LI 0) = some A1) (h2 : f_X11_in v1 0 2 = some 0) : f_X11_image N A q v1 = some (0, A1) := by
  unfold f_X11_image
  rw [if_pos h0, show b_X11_image N A q v1 = some (0, A1) by unfold b_X11_image; (repeat (first | with_reducible rfl | refine (bnd_eq (by first | with_reducible assumption)).trans ?_ | refine (if_pos (by first | with_reducible assumption | with_reducible rfl | decide | (dsimp only; first | with_reducible assumption | with_reducible rfl | decide))).trans ?_ | refine (if_neg (by first | with_reducible assumption | decide | (dsimp only; first | with_reducible assumption | decide))).trans ?_))]; rfl
theorem mi_t (N : Nat) (h0 : isO A q 11 = true) (h1 : pF A q 11 0 (LI 0) = some A1) (h2 : f_X11_in v1 0 2 = some 1) (h3 : f_X11_copy N A1 q 0 (v1 + 1) = some A2) (h4 : gR A2 q 11 49 = some x) (h5 : sI A2 x 2 v1 (vp_nar .boolean 1) = some A3) : f_X11_image N A q v1 = some (1, A3) := by
  unfold f_X11_image
  rw [if_pos h0, show b_X11_image N A q v1 = some (1, A3) by unfold b_X11_image; (repeat (first | with_reducible rfl | refine (bnd_eq (by first | with_reducible assumption)).trans ?_ | refine (if_pos (by first | with_reducible assumption | with_reducible rfl | decide | (dsimp only; first | with_reducible assumption | with_reducible rfl | decide))).trans ?_ | refine (if_neg (by first | with_reducible assumption | decide | (dsimp only; first | with_reducible assumption | decide))).trans ?_))]; rfl
theorem ma_f (N : Nat) (h0 : isO A q 11 = true) (h1 : pF A q 11 0 (LI 0) = some A1) (h2 : f_X11_in v1 0 2 = some 0) : f_X11_again N A q v1 = some (0, A1) := by
  unfold f_X11_again
  rw [if_pos h0, show b_X11_again N A q v1 = some (0, A1) by unfold b_X11_again; (repeat (first | with_reducible rfl | refine (bnd_eq (by first | with_reducible assumption)).trans ?_ | refine (if_pos (by first | with_reducible assumption | with_reducible rfl | decide | (dsimp only; first | with_reducible assumption | with_reducible rfl | decide))).trans ?_ | refine (if_neg (by first | with_reducible assumption | decide | (dsimp only; first | with_reducible assumption | decide))).trans ?_))]; rfl
theorem ma_no (N : Nat) (h0 : isO A q 11 = true) (h1 : pF A q 11 0 (LI 0) = some A1) (h2 : f_X11_in v1 0 2 = some 1) (h3 : gR A1 q 11 49 = some x) (h4 : aI A1 x 2 v1 = some 0) : f_X11_again N A q v1 = some (0, A1) := by
  unfold f_X11_again
  rw [if_pos h0, show b_X11_again N A q v1 = some (0, A1) by unfold b_X11_again; (repeat (first | with_reducible rfl | refine (bnd_eq (by first | with_reducible assumption)).trans ?_ | refine (if_pos (by first | with_reducible assumption | with_reducible rfl | decide | (dsimp only; first | with_reducible assumption | with_reducible rfl | decide))).trans ?_ | refine (if_neg (by first | with_reducible assumption | decide | (dsimp only; first | with_reducible assumption | decide))).trans ?_))]; rfl
theorem ma_t (N : Nat) (h0 : isO A q 11 = true) (h1 : pF A q 11 0 (LI 0) = some A1) (h2 : f_X11_in v1 0 2 = some 1) (h3 : gR A1 q 11 49 = some x) (h4 : aI A1 x 2 v1 = some 1) (h5 : f_X11_copy N A1 q (v1 + 1) 0 = some A2) (h6 : pZ A2 q 11 41 0 = some A3) : f_X11_again N A q v1 = some (1, A3) := by
  unfold f_X11_again
  rw [if_pos h0, show b_X11_again N A q v1 = some (1, A3) by unfold b_X11_again; (repeat (first | with_reducible rfl | refine (bnd_eq (by first | with_reducible assumption)).trans ?_ | refine (if_pos (by first | with_reducible assumption | with_reducible rfl | decide | (dsimp only; first | with_reducible assumption | with_reducible rfl | decide))).trans ?_ | refine (if_neg (by first | with_reducible assumption | decide | (dsimp only; first | with_reducible assumption | decide))).trans ?_))]; rfl
end IMA
section IMG
variable {X : XS} {C : CS} {M : MS} {T : TS} {S : SG} {K : Nat} {mu : List Nat}
/-- a new Table -/
theorem k_tabNew {c l : Nat} (h51 : 54 ≤ T.1) (hc : c * l ≤ 60000000) : ∃ T', f_X5_init (al (hp X C M T) (.inr (5, [LI 0, LI 0, LR none, LI 0])) 4) (some (8 + hn (hp X C M T))) (nI c) (nI l) = some (hp X C M T') ∧ T'.1 = T.1 + 2 ∧ T'.2.1 = T.2.1 + 4 + c * l ∧ T'.2.2 (8 + T.1) = .inr (5, [LI (nI c), LI (nI l), LR (some (8 + T.1 + 1)), LI 0]) ∧ T'.2.2 (8 + T.1 + 1) = .inl (0, c * l, .inl fun _ => 0) ∧ ∀ p, p ≠ 8 + T.1 → p ≠ 8 + T.1 + 1 → T'.2.2 p = T.2.2 p := by
  rw [al_hp h51, hn_hp]
  obtain ⟨T0, hT0⟩ : ∃ T0, T0 = aT T (.inr (5, [LI 0, LI 0, LR none, LI 0])) 4 := ⟨_, rfl⟩
  have h59 : 62 ≤ 8 + T.1 := by omega
  have a1 : T0.1 = T.1 + 1 := by subst hT0; rfl
  have a2 : T0.2.1 = T.2.1 + 4 := by subst hT0; rfl
  have a3 : T0.2.2 (8 + T.1) = .inr (5, [LI 0, LI 0, LR none, LI 0]) := by subst hT0; exact aT_s
  have a4 : ∀ p, p ≠ 8 + T.1 → T0.2.2 p = T.2.2 p := by subst hT0; exact fun p hp => aT_n hp
  rw [← hT0]
  have p1 := pF_hp (X := X) (C := C) (M := M) (k := 0) (v := LI (nI c)) h59 a3 (by simp)
  have p2 := pF_hp (X := X) (C := C) (M := M) (T := sT T0 (8 + T.1) (.inr (5, [LI (nI c), LI 0, LR none, LI 0]))) (k := 1) (v := LI (nI l)) h59 sT_s (by simp)
  rw [sTsT] at p2
  have p3 := nI_hp (X := X) (C := C) (M := M) (T := sT T0 (8 + T.1) (.inr (5, [LI (nI c), LI (nI l), LR none, LI 0]))) (t := 0) (n := c * l) (by rw [sT_1]; omega) hc
  have hne : 8 + T.1 ≠ 8 + (sT T0 (8 + T.1) (.inr (5, [LI (nI c), LI (nI l), LR none, LI 0]))).1 := by rw [sT_1, a1]; omega
  have p4 := pF_hp (X := X) (C := C) (M := M) (T := aT (sT T0 (8 + T.1) (.inr (5, [LI (nI c), LI (nI l), LR none, LI 0]))) (.inl (0, c * l, .inl fun _ => 0)) (c * l)) (q := 8 + T.1) (ci := 5) (fs := [LI (nI c), LI (nI l), LR none, LI 0]) (k := 2) (v := LR (some (8 + T.1 + 1))) h59 ((aT_n hne).trans sT_s) (by simp)
  have p5 := pF_hp (X := X) (C := C) (M := M) (T := sT (aT (sT T0 (8 + T.1) (.inr (5, [LI (nI c), LI (nI l), LR none, LI 0]))) (.inl (0, c * l, .inl fun _ => 0)) (c * l)) (8 + T.1) (.inr (5, [LI (nI c), LI (nI l), LR (some (8 + T.1 + 1)), LI 0]))) (k := 3) (v := LI 0) h59 sT_s (by simp)
  refine ⟨_, t5_ab (isO_hp h59 a3) p1 p2 (by rw [pk_mul, mmx_n (by omega)]; exact p3) (by rw [hn_hp, sT_1, a1, ← Nat.add_assoc]; exact p4) p5, ?_, ?_, sT_s, ?_, fun p hp1 hp2 => ?_⟩
  · show T0.1 + 1 = _; omega
  · show T0.2.1 + c * l = _; omega
  · rw [sT_n (by omega), sT_n (by omega)]
    have : 8 + T.1 + 1 = 8 + (sT T0 (8 + T.1) (.inr (5, [LI (nI c), LI (nI l), LR none, LI 0]))).1 := by rw [sT_1, a1]; omega
    rw [this]; exact aT_s
  · rw [sT_n hp1, sT_n hp1, aT_n (by rw [sT_1, a1]; omega), sT_n hp1, a4 p hp1]
/-- a new Told -/
theorem k_tldNew (N : Nat) (hN : 20 ≤ N) (h51 : 54 ≤ T.1) : ∃ T' fs, f_X8_init N (al (hp X C M T) (.inr (8, [LR none, LR none, LR none, LR none])) 4) (some (8 + hn (hp X C M T))) = some (hp X C M T') ∧ T'.1 = T.1 + 11 ∧ T'.2.1 ≤ T.2.1 + 1200 ∧ ToC T' (8 + T.1) (8 + T.1 + 1) (8 + T.1 + 2) (8 + T.1 + 3) (8 + T.1 + 4) (8 + T.1 + 5) (8 + T.1 + 6) (8 + T.1 + 7) (nI 0) (nI 0) (nI 0) (fun _ => 0) (fun _ => 0) (fun _ => 0) fs ∧ ∀ p, p < 8 + T.1 ∨ 8 + T.1 + 11 ≤ p → T'.2.2 p = T.2.2 p := by
  rw [al_hp h51, hn_hp]
  obtain ⟨T0, hT0⟩ : ∃ T0, T0 = aT T (.inr (8, [LR none, LR none, LR none, LR none])) 4 := ⟨_, rfl⟩
  have h59 : 62 ≤ 8 + T.1 := by omega
  have a1 : T0.1 = T.1 + 1 := by subst hT0; rfl
  have a2 : T0.2.1 = T.2.1 + 4 := by subst hT0; rfl
  have a3 : T0.2.2 (8 + T.1) = .inr (8, [LR none, LR none, LR none, LR none]) := by subst hT0; exact aT_s
  have a4 : ∀ p, p ≠ 8 + T.1 → T0.2.2 p = T.2.2 p := by subst hT0; exact fun p hp => aT_n hp
  rw [← hT0]
  obtain ⟨T1, b1, b2, b3, b4, b5, b6⟩ := k_tabNew (X := X) (C := C) (M := M) (T := T0) (c := 2) (l := 16) (by omega) (by decide)
  have p1 := pF_hp (X := X) (C := C) (M := M) (T := T1) (q := 8 + T.1) (k := 0) (v := LR (some (8 + T0.1))) h59 ((b6 _ (by omega) (by omega)).trans a3) (by simp)
  obtain ⟨U1, hU1⟩ : ∃ U, U = sT T1 (8 + T.1) (.inr (8, [LR (some (8 + T0.1)), LR none, LR none, LR none])) := ⟨_, rfl⟩
  have u1 : U1.1 = T.1 + 3 ∧ U1.2.1 = T1.2.1 := by subst hU1; exact ⟨show T1.1 = _ by omega, rfl⟩
  have u1s : U1.2.2 (8 + T.1) = .inr (8, [LR (some (8 + T0.1)), LR none, LR none, LR none]) := by subst hU1; exact sT_s
  have u1n : ∀ p, p ≠ 8 + T.1 → U1.2.2 p = T1.2.2 p := by subst hU1; exact fun p hp => sT_n hp
  have p1' : pF (hp X C M T1) (some (8 + T.1)) 8 0 (LR (some (8 + hn (hp X C M T0)))) = some (hp X C M U1) := by rw [hU1]; exact p1
  obtain ⟨T2, d1, d2, d3, d4, d5, d6⟩ := k_tabNew (X := X) (C := C) (M := M) (T := U1) (c := 3) (l := 16) (by omega) (by decide)
  have p2 := pF_hp (X := X) (C := C) (M := M) (T := T2) (q := 8 + T.1) (k := 1) (v := LR (some (8 + U1.1))) h59 ((d6 _ (by omega) (by omega)).trans u1s) (by simp)
  obtain ⟨U2, hU2⟩ : ∃ U, U = sT T2 (8 + T.1) (.inr (8, [LR (some (8 + T0.1)), LR (some (8 + U1.1)), LR none, LR none])) := ⟨_, rfl⟩
  have u2 : U2.1 = T.1 + 5 ∧ U2.2.1 = T2.2.1 := by subst hU2; exact ⟨show T2.1 = _ by omega, rfl⟩
  have u2s : U2.2.2 (8 + T.1) = .inr (8, [LR (some (8 + T0.1)), LR (some (8 + U1.1)), LR none, LR none]) := by subst hU2; exact sT_s
  have u2n : ∀ p, p ≠ 8 + T.1 → U2.2.2 p = T2.2.2 p := by subst hU2; exact fun p hp => sT_n hp
  have p2' : pF (hp X C M T2) (some (8 + T.1)) 8 1 (LR (some (8 + hn (hp X C M U1)))) = some (hp X C M U2) := by rw [hU2]; exact p2
  obtain ⟨T3, e1, e2, e3, e4, e5, e6⟩ := k_tabNew (X := X) (C := C) (M := M) (T := U2) (c := 5) (l := 200) (by omega) (by decide)
  have p3 := pF_hp (X := X) (C := C) (M := M) (T := T3) (q := 8 + T.1) (k := 2) (v := LR (some (8 + U2.1))) h59 ((e6 _ (by omega) (by omega)).trans u2s) (by simp)
  obtain ⟨U3, hU3⟩ : ∃ U, U = sT T3 (8 + T.1) (.inr (8, [LR (some (8 + T0.1)), LR (some (8 + U1.1)), LR (some (8 + U2.1)), LR none])) := ⟨_, rfl⟩
  have u3 : U3.1 = T.1 + 7 ∧ U3.2.1 = T3.2.1 := by subst hU3; exact ⟨show T3.1 = _ by omega, rfl⟩
  have u3s : U3.2.2 (8 + T.1) = .inr (8, [LR (some (8 + T0.1)), LR (some (8 + U1.1)), LR (some (8 + U2.1)), LR none]) := by subst hU3; exact sT_s
  have u3n : ∀ p, p ≠ 8 + T.1 → U3.2.2 p = T3.2.2 p := by subst hU3; exact fun p hp => sT_n hp
  have p3' : pF (hp X C M T3) (some (8 + T.1)) 8 2 (LR (some (8 + hn (hp X C M U2)))) = some (hp X C M U3) := by rw [hU3]; exact p3
  have p4 := nR_hp (X := X) (C := C) (M := M) (T := U3) (t := 4) (n := 4) (by omega) (by decide)
  obtain ⟨U4, hU4⟩ : ∃ U, U = aT U3 (.inl (4, 4, .inr fun _ => none)) 4 := ⟨_, rfl⟩
  have u4 : U4.1 = T.1 + 8 ∧ U4.2.1 = U3.2.1 + 4 := by subst hU4; exact ⟨show U3.1 + 1 = _ by omega, rfl⟩
  have u4s : U4.2.2 (8 + U3.1) = .inl (4, 4, .inr fun _ => none) := by subst hU4; exact aT_s
  have u4n : ∀ p, p ≠ 8 + U3.1 → U4.2.2 p = U3.2.2 p := by subst hU4; exact fun p hp => aT_n hp
  rw [← hU4, nI_4] at p4
  have p5 := pF_hp (X := X) (C := C) (M := M) (T := U4) (q := 8 + T.1) (k := 3) (v := LR (some (8 + U3.1))) h59 ((u4n _ (by omega)).trans u3s) (by simp)
  obtain ⟨U5, hU5⟩ : ∃ U, U = sT U4 (8 + T.1) (.inr (8, [LR (some (8 + T0.1)), LR (some (8 + U1.1)), LR (some (8 + U2.1)), LR (some (8 + U3.1))])) := ⟨_, rfl⟩
  have u5 : U5.1 = T.1 + 8 ∧ U5.2.1 = U4.2.1 := by subst hU5; exact ⟨u4.1, rfl⟩
  have u5s : U5.2.2 (8 + T.1) = .inr (8, [LR (some (8 + T0.1)), LR (some (8 + U1.1)), LR (some (8 + U2.1)), LR (some (8 + U3.1))]) := by subst hU5; exact sT_s
  have u5n : ∀ p, p ≠ 8 + T.1 → U5.2.2 p = U4.2.2 p := by subst hU5; exact fun p hp => sT_n hp
  have p5' : pF (hp X C M U4) (some (8 + T.1)) 8 3 (LR (some (8 + hn (hp X C M U3)))) = some (hp X C M U5) := by rw [hU5]; exact p5
  obtain ⟨U6, hU6⟩ : ∃ U, U = aT U5 (.inr (3, [LI 0, LR none, LR none])) 3 := ⟨_, rfl⟩
  have u6 : U6.1 = T.1 + 9 ∧ U6.2.1 = U5.2.1 + 3 := by subst hU6; exact ⟨show U5.1 + 1 = _ by omega, rfl⟩
  have u6s : U6.2.2 (8 + U5.1) = .inr (3, [LI 0, LR none, LR none]) := by subst hU6; exact aT_s
  have u6n : ∀ p, p ≠ 8 + U5.1 → U6.2.2 p = U5.2.2 p := by subst hU6; exact fun p hp => aT_n hp
  have p6a : al (hp X C M U5) (.inr (3, [LI 0, LR none, LR none])) 3 = hp X C M U6 := by rw [hU6]; exact al_hp (by omega)
  have p6 := nR_hp (X := X) (C := C) (M := M) (T := U6) (t := 3) (n := 0) (by omega) (by decide)
  obtain ⟨U7, hU7⟩ : ∃ U, U = aT U6 (.inl (3, 0, .inr fun _ => none)) 0 := ⟨_, rfl⟩
  have u7 : U7.1 = T.1 + 10 ∧ U7.2.1 = U6.2.1 := by subst hU7; exact ⟨show U6.1 + 1 = _ by omega, rfl⟩
  have u7s : U7.2.2 (8 + U6.1) = .inl (3, 0, .inr fun _ => none) := by subst hU7; exact aT_s
  have u7n : ∀ p, p ≠ 8 + U6.1 → U7.2.2 p = U6.2.2 p := by subst hU7; exact fun p hp => aT_n hp
  rw [← hU7, nI_0] at p6
  obtain ⟨fo, U8, f1, f2, f3, f4, f5, f6, -⟩ := k_rules_init (X := X) (C := C) (M := M) (T := U7) N hN (q := 8 + U5.1) (ql := 8 + U6.1) (n := 0) (how := 0) (ls := []) (by omega) (by omega) (by omega) ((u7n _ (by omega)).trans u6s) ⟨by omega, rfl, _, u7s, fun i l hl => by cases hl⟩ (by decide) (by decide)
  rw [nI_0] at f1
  -- the SLOTS
  have lp : ∀ (d m i : Nat) (f : Nat → Option Nat), 4 = i + d → d < m → ∃ f', l_X8_init_70 N m (hp X C M (sT U8 (8 + U3.1) (.inl (4, 4, .inr f)))) (some (8 + T.1)) (some (8 + U5.1)) (nI i) = some (hp X C M (sT U8 (8 + U3.1) (.inl (4, 4, .inr f')))) := by
    intro d
    induction d with
    | zero =>
      intro m i f h1 h2
      obtain ⟨m, rfl⟩ : ∃ k, m = k + 1 := ⟨m - 1, by omega⟩
      exact ⟨f, i70_end N m (by rw [← nI_4]; exact nI_le (by omega) (by omega))⟩
    | succ d ih =>
      intro m i f h1 h2
      obtain ⟨m, rfl⟩ : ∃ k, m = k + 1 := ⟨m - 1, by omega⟩
      have hv : gc (hp X C M (sT U8 (8 + U3.1) (.inl (4, 4, .inr f)))) (8 + U5.1) = .inr (3, [LI (nI 0), LR (some (8 + U6.1)), LR (some (8 + U7.1))]) := by
        rw [gc_hp (by omega), sT_n (by omega)]; exact f4
      have s1 := sR_hp (X := X) (C := C) (M := M) (T := sT U8 (8 + U3.1) (.inl (4, 4, .inr f))) (q := 8 + U3.1) (k := i) (t := 4) (ci := 3) (by omega) sT_s (by omega) (by decide) hv (by omega)
      rw [sTsT] at s1
      obtain ⟨f', q1⟩ := ih m (i + 1) (va_up f i (some (8 + U5.1))) (by omega) (by omega)
      refine ⟨f', ?_⟩
      have hq : (sT U8 (8 + U3.1) (.inl (4, 4, .inr f))).2.2 (8 + T.1) = .inr (8, [LR (some (8 + T0.1)), LR (some (8 + U1.1)), LR (some (8 + U2.1)), LR (some (8 + U3.1))]) := by
        rw [sT_n (by omega), f6 _ (by omega) (by omega), u7n _ (by omega), u6n _ (by omega)]; exact u5s
      rw [i70_st N m (by rw [← nI_4]; exact nI_ge (by omega) (by decide)) (gR_hp h59 hq rfl) s1, nI_1]
      exact q1
  have hqs : U8.2.2 (8 + U3.1) = .inl (4, 4, .inr fun _ => none) := by
    rw [f6 _ (by omega) (by omega), u7n _ (by omega), u6n _ (by omega), u5n _ (by omega)]; exact u4s
  obtain ⟨fs, l1⟩ := lp 4 N 0 (fun _ => none) rfl (by omega)
  have hs8 : sT U8 (8 + U3.1) (.inl (4, 4, .inr fun _ => none)) = U8 := by
    unfold sT
    refine Prod.ext rfl (Prod.ext rfl ?_)
    funext p
    by_cases z : p = 8 + U3.1
    · subst z; show va_up _ _ _ _ = _; rw [vu_s]; exact hqs.symm
    · show va_up _ _ _ _ = _; rw [vu_n z]
  rw [hs8, nI_0] at l1
  refine ⟨sT U8 (8 + U3.1) (.inl (4, 4, .inr fs)), fs, ?_, ?_, ?_, ?_, fun p hp' => ?_⟩
  · refine t8_ab (isO_hp h59 a3) b1 p1' d1 p2' e1 p3' p4 p5' (B9 := hp X C M U7) ?_ (B10 := hp X C M U8) ?_ ?_
    · rw [p6a]; exact p6
    · rw [p6a]; exact f1
    · exact l1
  · show U8.1 = _; omega
  · show U8.2.1 ≤ _; omega
  · have s0 : U3.1 = T.1 + 7 := u3.1
    have k1 : ∀ p, p ≠ 8 + T.1 → p < 8 + T.1 + 7 → (sT U8 (8 + U3.1) (.inl (4, 4, .inr fs))).2.2 p = T3.2.2 p := fun p h1 h2 => by
      rw [sT_n (by omega), f6 _ (by omega) (by omega), u7n _ (by omega), u6n _ (by omega), u5n _ h1, u4n _ (by omega), u3n _ h1]
    refine ⟨?_, ?_, ?_, ?_, ?_, ?_, ?_, ?_⟩
    · rw [sT_n (by omega), f6 _ (by omega) (by omega), u7n _ (by omega), u6n _ (by omega), u5s]
      rw [show 8 + T0.1 = 8 + T.1 + 1 by omega, show 8 + U1.1 = 8 + T.1 + 3 by omega, show 8 + U2.1 = 8 + T.1 + 5 by omega, show 8 + U3.1 = 8 + T.1 + 7 by omega]
    · rw [k1 _ (by omega) (by omega), e6 _ (by omega) (by omega), u2n _ (by omega), d6 _ (by omega) (by omega), u1n _ (by omega), show 8 + T.1 + 1 = 8 + T0.1 by omega, b4, show 8 + T0.1 + 1 = 8 + T.1 + 2 by omega]; rfl
    · rw [k1 _ (by omega) (by omega), e6 _ (by omega) (by omega), u2n _ (by omega), d6 _ (by omega) (by omega), u1n _ (by omega), show 8 + T.1 + 2 = 8 + T0.1 + 1 by omega, b5]
    · rw [k1 _ (by omega) (by omega), e6 _ (by omega) (by omega), u2n _ (by omega), show 8 + T.1 + 3 = 8 + U1.1 by omega, d4, show 8 + U1.1 + 1 = 8 + T.1 + 4 by omega]; rfl
    · rw [k1 _ (by omega) (by omega), e6 _ (by omega) (by omega), u2n _ (by omega), show 8 + T.1 + 4 = 8 + U1.1 + 1 by omega, d5]
    · rw [k1 _ (by omega) (by omega), show 8 + T.1 + 5 = 8 + U2.1 by omega, e4, show 8 + U2.1 + 1 = 8 + T.1 + 6 by omega]; rfl
    · rw [k1 _ (by omega) (by omega), show 8 + T.1 + 6 = 8 + U2.1 + 1 by omega, e5]
    · rw [show 8 + T.1 + 7 = 8 + U3.1 by omega]; exact sT_s
  · have s0 : U3.1 = T.1 + 7 := u3.1
    rw [sT_n (by omega), f6 _ (by omega) (by omega), u7n _ (by omega), u6n _ (by omega), u5n _ (by omega), u4n _ (by omega), u3n _ (by omega), e6 _ (by omega) (by omega), u2n _ (by omega), d6 _ (by omega) (by omega), u1n _ (by omega), b6 _ (by omega) (by omega), a4 _ (by omega)]
end IMG
