/-! every run of the law -/
section MAI
variable {X : XS}
theorem law_end {a i : Nat} (ha : a < i + 7) (hb : i < 5000) : nI a - 7 < nI i := by
  by_cases h : 7 ≤ a
  · rw [show (7 : Int32) = nI 7 from rfl, nI_sub' h]
    exact nI_lt (by omega) (by omega)
  · have h1 : ∀ a : Fin 7, nI a.val - 7 < 0 := by decide
    exact Int32.lt_of_lt_of_le (h1 ⟨a, by omega⟩) (show nI 0 ≤ nI i from nI_le (Nat.zero_le _) (by omega))
theorem law_loop (N : Nat) (hN : 30000 ≤ N) (hL : X.1 ≤ 3584) : ∀ (n m i : Nat) (S : SG) (C : CS) (M : MS) (T : TS) (K : Nat), INV S C M T K → 7 * K ≤ i → i ≤ X.1 + 7 → X.1 < i + 7 * n + 7 → n < m → ∃ C' M' T', l_L_law_18 N m (hp X C M T) (some 0) (some 8) (some 35) (nI i) = some (1, hp X C' M' T') ∧ T'.1 ≤ T.1 + 40 * n ∧ T'.2.1 ≤ T.2.1 + 12000 * n := by
  intro n
  induction n with
  | zero =>
    intro m i S C M T K h hK hi hn hm
    obtain ⟨m', rfl⟩ : ∃ m', m = m' + 1 := ⟨m - 1, by omega⟩
    exact ⟨C, M, T, lw_e ln_0 (law_end (by omega) (by omega)), by omega, by omega⟩
  | succ n ih =>
    intro m i S C M T K h hK hi hn hm
    obtain ⟨m', rfl⟩ : ∃ m', m = m' + 1 := ⟨m - 1, by omega⟩
    by_cases he : X.1 < i + 7
    · exact ⟨C, M, T, lw_e ln_0 (law_end he (by omega)), by omega, by omega⟩
    · obtain ⟨S', C', M', T', K', f1, f2, f3, f4⟩ := law_step (X := X) N hN hL (by omega) (i := i) (by omega) h
      obtain ⟨C2, M2, T2, g1, g2, g3⟩ := ih m' (i + 7) S' C' M' T' K' f2 (by omega) (by omega) (by omega) (by omega)
      refine ⟨C2, M2, T2, (f1 _).trans g1, ?_, ?_⟩
      · have := f4.2.1
        omega
      · have := f4.2.2
        omega
theorem main_run (L : Nat) (xs : Nat → Int32) (hL : L ≤ 3584) : ∃ N A', f_L_law N (A00 L xs) (some 0) = some (1, A') ∧ hn A' ≤ 600000 ∧ hz A' ≤ 7302250 := by
  obtain ⟨z1, k1, k2⟩ := i_X10 (X := (L, xs)) (z := 0 + 9) (N := 40000) (by decide)
  obtain ⟨z2, l1, l2⟩ := i_X11 (X := (L, xs)) (z := z1 + 50)
  obtain ⟨C', M', T', g1, g2, g3⟩ := law_loop (X := (L, xs)) 40000 (by decide) hL 512 40000 0 S00 C00 M00 (54, z2, fun _ => ab_) 0 inv00 (by decide) (by omega) (by show L < _; omega) (by decide)
  have a1 : al (A00 L xs) (.inr (10, [LR none, LR none, LR none, LR none, LR none, LR none, LR none, LI 0, LI 0])) 9 = Hq (L, xs) [.inr (10, [LR none, LR none, LR none, LR none, LR none, LR none, LR none, LI 0, LI 0])] (0 + 9) := q_al (X := (L, xs)) (tl := []) (z := 0) (by decide)
  have a2 : al (Hq (L, xs) KC z1) (.inr (11, F_0)) 50 = Hq (L, xs) (KC ++ .inr (11, F_0) :: R_0) (z1 + 50) := q_al (X := (L, xs)) (tl := KC) (z := z1) (show 27 < 54 by decide)
  have e1 : f_X10_init 40000 (al (A00 L xs) (.inr (10, [LR none, LR none, LR none, LR none, LR none, LR none, LR none, LI 0, LI 0])) 9) (some (8 + hn (A00 L xs))) = some (Hq (L, xs) KC z1) := by
    rw [a1]; exact k1
  have e2 : f_X11_init (al (Hq (L, xs) KC z1) (.inr (11, F_0)) 50) (some (8 + hn (Hq (L, xs) KC z1))) = some (hp (L, xs) C00 M00 (54, z2, fun _ => ab_)) := by
    rw [a2, ← fin_hp]; exact l1
  refine ⟨40000, hp (L, xs) C' M' T', ?_, ?_, ?_⟩
  · have e3 : b_L_law 40000 (A00 L xs) (some 0) = some (1, hp (L, xs) C' M' T') := by
      unfold b_L_law
      exact (bnd_eq e1).trans ((bnd_eq e2).trans g1)
    unfold f_L_law
    rw [e3]; rfl
  · rw [hn_hp]
    have : T'.1 ≤ 54 + 40 * 512 := g2
    omega
  · rw [hz_hp]
    have : T'.2.1 ≤ z2 + 12000 * 512 := g3
    omega
end MAI
