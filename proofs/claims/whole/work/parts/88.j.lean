/-! the reference keeps what it read -/
section MCA
variable {A A1 A2 A3 A4 A5 A6 A7 A8 A9 A10 A11 A12 A13 : LH} {q q1 q2 q3 q4 : Option Nat} {N : Nat} {v x y z w t c d h i : Int32} {P : Option (Int32 × LH)} {k : LH → Option Nat → Int32 → Int32 → Option (Int32 × LH)}
theorem r153_e (h1 : gI A q 11 30 = some x) (h2 : (8 : Int32) * x ≤ i) : b_X11_rules_153 N k A q v i = l_X11_rules_189 N N A q v 0 := by
  unfold b_X11_rules_153
  rw [bnd_eq h1, if_pos h2]
theorem r153_s (h1 : gI A q 11 30 = some x) (h2 : ¬ (8 : Int32) * x ≤ i) (h3 : gR A q 11 15 = some q1) (h4 : gR A q 11 32 = some q2) (h5 : aI A q2 0 i = some y) (h6 : sI A q1 0 ((96 : Int32) * v + i) y = some A1) : b_X11_rules_153 N k A q v i = k A1 q v (i + 1) := by
  unfold b_X11_rules_153
  rw [bnd_eq h1, if_neg h2, bnd_eq h3, bnd_eq h4, bnd_eq h5, bnd_eq h6]
theorem r189_e (h1 : gI A q 11 31 = some x) (h2 : x ≤ i) (h3 : gI A q 11 36 = some t) (h4 : pF A q 11 36 (LI (t + 1)) = some A1) (h5 : gR A1 q 11 37 = some q1) (h6 : gI A1 q 11 36 = some y) (h7 : sI A1 q1 0 v y = some A2) (h8 : gI A2 q 11 30 = some c) : b_X11_rules_189 N k A q v i = some (c, A2) := by
  unfold b_X11_rules_189
  rw [bnd_eq h1, if_pos h2, bnd_eq h3, bnd_eq h4, bnd_eq h5, bnd_eq h6, bnd_eq h7, bnd_eq h8]
theorem r189_s (h1 : gI A q 11 31 = some x) (h2 : ¬ x ≤ i) (h3 : gR A q 11 16 = some q1) (h4 : gR A q 11 33 = some q2) (h5 : aI A q2 1 i = some y) (h6 : sI A q1 1 ((900 : Int32) * v + i) (y).toInt8.toInt32 = some A1) (h7 : gR A1 q 11 17 = some q3) (h8 : gR A1 q 11 34 = some q4) (h9 : aI A1 q4 0 i = some z) (h10 : sI A1 q3 0 ((900 : Int32) * v + i) z = some A2) : b_X11_rules_189 N k A q v i = k A2 q v (i + 1) := by
  unfold b_X11_rules_189
  rw [bnd_eq h1, if_neg h2, bnd_eq h3, bnd_eq h4, bnd_eq h5, bnd_eq h6, bnd_eq h7, bnd_eq h8, bnd_eq h9, bnd_eq h10]
theorem r92_d (h1 : gI A q 11 24 = some x) (h2 : ¬ x = 0) : b_X11_rules_92 N A q v = b_X11_rules_122 N A q v := by
  unfold b_X11_rules_92
  rw [bnd_eq h1, if_neg h2]
theorem r92_0 (h1 : gI A q 11 24 = some x) (h2 : x = 0) (h3 : gI A q 11 26 = some y) (h4 : y ≤ 0) : b_X11_rules_92 N A q v = b_X11_rules_122 N A q v := by
  unfold b_X11_rules_92
  rw [bnd_eq h1, if_pos h2, bnd_eq h3, if_pos h4]
theorem r92_n (h1 : gI A q 11 24 = some x) (h2 : x = 0) (h3 : gI A q 11 26 = some y) (h4 : ¬ y ≤ 0) (h5 : pF A q 11 24 (LI y) = some A1) (h6 : gI A1 q 11 27 = some z) (h7 : pF A1 q 11 25 (LI z) = some A2) : b_X11_rules_92 N A q v = b_X11_rules_122 N A2 q v := by
  unfold b_X11_rules_92
  rw [bnd_eq h1, if_pos h2, bnd_eq h3, if_neg h4, bnd_eq h3, bnd_eq h5, bnd_eq h6, bnd_eq h7]
theorem r122_f (h1 : gI A q 11 24 = some x) (h2 : ¬ x ≤ 0) : b_X11_rules_122 N A q v = some (-1, A) := by
  unfold b_X11_rules_122
  rw [bnd_eq h1, if_neg h2]
theorem r122_t (h1 : gI A q 11 24 = some x) (h2 : x ≤ 0) (h3 : gR A q 11 13 = some q1) (h4 : gI A q 11 29 = some y) (h5 : sI A q1 0 v y = some A1) (h6 : gR A1 q 11 14 = some q2) (h7 : gI A1 q 11 30 = some z) (h8 : sI A1 q2 0 v z = some A2) : b_X11_rules_122 N A q v = l_X11_rules_153 N N A2 q v 0 := by
  unfold b_X11_rules_122
  rw [bnd_eq h1, if_pos h2, bnd_eq h3, bnd_eq h4, bnd_eq h5, bnd_eq h6, bnd_eq h7, bnd_eq h8]
theorem ru_no (h0 : isO A q 11 = true) (h1 : pF A q 11 0 (LI 0) = some A1) (h2 : f_X11_isSlot A1 q v = some 0) : f_X11_rules N A q v = some (-2, A1) := by
  unfold f_X11_rules b_X11_rules
  rw [if_pos h0, bnd_eq h1, bnd_eq h2, if_pos rfl]
theorem ru_ab (h0 : isO A q 11 = true) (h1 : pF A q 11 0 (LI 0) = some A1) (h2 : f_X11_isSlot A1 q v = some 1) (h3 : gI A1 q 11 2 = some x) (h4 : pF A1 q 11 19 (LI x) = some A2) (h5 : pF A2 q 11 2 (LI 0) = some A3) (h6 : pF A3 q 11 18 (LI 0) = some A4) (h7 : pF A4 q 11 24 (LI 0) = some A5) (h8 : pF A5 q 11 25 (LI (-1)) = some A6) (h9 : pF A6 q 11 26 (LI 0) = some A7) (h10 : pF A7 q 11 28 (LI 0) = some A8) (h11 : pF A8 q 11 31 (LI 0) = some A9) (h12 : pF A9 q 11 30 (LI 0) = some A10) (h13 : f_X11_next N A10 q = some A11) (h14 : f_X11_beginning N A11 q = some (d, A12)) (h15 : l_X11_rules_73 N N A12 q v d = P) : f_X11_rules N A q v = P := by
  unfold f_X11_rules b_X11_rules
  rw [if_pos h0, bnd_eq h1, bnd_eq h2, if_neg i1_ne, bnd_eq h3, bnd_eq h4, bnd_eq h5, bnd_eq h6, bnd_eq h7, bnd_eq h8, bnd_eq h9, bnd_eq h10, bnd_eq h11, bnd_eq h12, bnd_eq h13, bnd_eq h14, h15]
end MCA
section MCB
variable {X : XS} {C : CS} {M M' : MS} {T : TS} {tp : List Nat} {N : Nat} {D : List (Nat × Nat)} {s n : Nat}
theorem ix_m {a b c : Nat} : nI a * nI b + nI c = nI (a * b + c) := by rw [nI_ml, nI_add]
theorem m_153 (N : Nat) (hs : s < 4) (hn : n ≤ 12) : ∀ (d i m : Nat) (M : MS), i + d = 8 * n → d < m → M.1 30 = nI n → ∃ M', l_X11_rules_153 N m (hp X C M T) (some 35) (nI s) (nI i) = l_X11_rules_189 N N (hp X C M' T) (some 35) (nI s) 0 ∧ M'.1 = M.1 ∧ (∀ j, j ≠ 15 → M'.2.2 j = M.2.2 j) ∧ (∀ p, p < 96 * s + i ∨ 96 * s + 96 ≤ p → M'.2.2 15 p = M.2.2 15 p) ∧ ∀ j, i ≤ j → j < 8 * n → M'.2.2 15 (96 * s + j) = M.2.2 32 j := by
  intro d
  induction d with
  | zero =>
    intro i m M hi hm h30
    obtain ⟨m', rfl⟩ : ∃ m', m = m' + 1 := ⟨m - 1, by omega⟩
    refine ⟨M, ?_, rfl, fun _ _ => rfl, fun _ _ => rfl, fun j h1 h2 => by omega⟩
    show b_X11_rules_153 N _ _ _ _ _ = _
    refine r153_e (gi_35_30.trans (congrArg some h30)) ?_
    rw [show (8 : Int32) * nI n = nI (8 * n) from nI_ml 8 n]
    exact nI_le (by omega) (by omega)
  | succ d ih =>
    intro i m M hi hm h30
    obtain ⟨m', rfl⟩ : ∃ m', m = m' + 1 := ⟨m - 1, by omega⟩
    have s1 : sI (hp X C M T) (some 49) 0 ((96 : Int32) * nI s + nI i) (M.2.2 32 i) = some (hp X C (ma M 15 (upd (M.2.2 15) (96 * s + i) (M.2.2 32 i))) T) := by
      rw [show (96 : Int32) * nI s + nI i = nI (96 * s + i) from ix_m]
      exact si_49 (by omega)
    obtain ⟨M', a1, a2, a3, a4, a5⟩ := ih (i + 1) m' (ma M 15 (upd (M.2.2 15) (96 * s + i) (M.2.2 32 i))) (by omega) (by omega) h30
    have r15 : (ma M 15 (upd (M.2.2 15) (96 * s + i) (M.2.2 32 i))).2.2 15 = upd (M.2.2 15) (96 * s + i) (M.2.2 32 i) := by rw [ma_22, up_s]
    refine ⟨M', ?_, a2, fun j hj => ?_, fun p hp' => ?_, fun j h1 h2 => ?_⟩
    · show b_X11_rules_153 N _ _ _ _ _ = _
      rw [r153_s (gi_35_30.trans (congrArg some h30)) (show ¬ (8 : Int32) * nI n ≤ nI i by rw [show (8 : Int32) * nI n = nI (8 * n) from nI_ml 8 n]; exact nI_ge (by omega) (by omega)) gr_35_15 gr_35_32 (ai_52 (by omega)) s1, nI_1]
      exact a1
    · rw [a3 j hj, ma_22, up_n _ _ hj]
    · rw [a4 p (by omega), r15]
      exact if_neg (by omega)
    · by_cases e : j = i
      · rw [e, a4 _ (by omega), r15]
        exact if_pos rfl
      · rw [a5 j (by omega) h2, ma_22, up_n _ _ (by decide)]
theorem by_16 {a : Nat} (h : a < 16) : (nI a).toInt8.toInt32 = nI a := by
  have : ∀ a : Fin 16, (nI a.val).toInt8.toInt32 = nI a.val := by decide
  exact this ⟨a, h⟩
theorem m_189 (N : Nat) {t : Nat} (hs : s < 4) (hD : D.length ≤ 600) : ∀ (d i m : Nat) (M : MS), i + d = D.length → d < m → CD M D → M.1 36 = nI t → ∃ M', l_X11_rules_189 N m (hp X C M T) (some 35) (nI s) (nI i) = some (M.1 30, hp X C M' T) ∧ (∀ j, j ≠ 36 → M'.1 j = M.1 j) ∧ M'.1 36 = nI (t + 1) ∧ (∀ j, j ≠ 16 → j ≠ 17 → j ≠ 37 → M'.2.2 j = M.2.2 j) ∧ M'.2.2 37 = upd (M.2.2 37) s (nI (t + 1)) ∧ (∀ p, p < 900 * s + i ∨ 900 * s + 900 ≤ p → M'.2.2 16 p = M.2.2 16 p ∧ M'.2.2 17 p = M.2.2 17 p) ∧ ∀ (j : Nat) (x : Nat × Nat), i ≤ j → D[j]? = some x → M'.2.2 16 (900 * s + j) = nI x.1 ∧ M'.2.2 17 (900 * s + j) = nI x.2 := by
  intro d
  induction d with
  | zero =>
    intro i m M hi hm hc h36
    obtain ⟨m', rfl⟩ : ∃ m', m = m' + 1 := ⟨m - 1, by omega⟩
    refine ⟨ma (m0 M 36 (nI (t + 1))) 37 (upd ((m0 M 36 (nI (t + 1))).2.2 37) s (nI (t + 1))), ?_, fun j hj => by rw [ma_1]; exact m0_n hj, by rw [ma_1]; exact m0_s, fun j h1 h2 h3 => ?_, ?_, fun p hp' => ?_, fun j x h1 hx => ?_⟩
    · show b_X11_rules_189 N _ _ _ _ _ = _
      refine r189_e (gi_35_31.trans (congrArg some hc.1)) (nI_le (by omega) (by omega)) (gi_35_36.trans (congrArg some h36)) (by rw [nI_1]; exact pi_35_36 _) gr_35_37 (by rw [gi_35_36, m0_s]) (si_55 (by omega)) ?_
      rw [gi_35_30, ma_1, m0_n (by decide)]
    · rw [ma_22, up_n _ _ h3]; rfl
    · rw [ma_22, up_s]; rfl
    · rw [ma_22, up_n _ _ (by decide), up_n _ _ (by decide)]; exact ⟨rfl, rfl⟩
    · have := at_lt hx
      omega
  | succ d ih =>
    intro i m M hi hm hc h36
    obtain ⟨m', rfl⟩ : ∃ m', m = m' + 1 := ⟨m - 1, by omega⟩
    obtain ⟨x, hx⟩ := at_ex D (i := i) (by omega)
    obtain ⟨c1, c2, c3⟩ := hc.2 i x hx
    have s1 : sI (hp X C M T) (some 50) 1 ((900 : Int32) * nI s + nI i) (M.2.2 33 i).toInt8.toInt32 = some (hp X C (ma M 16 (upd (M.2.2 16) (900 * s + i) (nI x.1))) T) := by
      rw [show (900 : Int32) * nI s + nI i = nI (900 * s + i) from ix_m, c1, by_16 c3]
      exact si_50 (by omega)
    obtain ⟨M1, hM1⟩ : ∃ M1, M1 = ma M 16 (upd (M.2.2 16) (900 * s + i) (nI x.1)) := ⟨_, rfl⟩
    rw [← hM1] at s1
    have e1 : M1.1 = M.1 := by rw [hM1]; rfl
    have e2 : ∀ j, j ≠ 16 → M1.2.2 j = M.2.2 j := fun j hj => by rw [hM1, ma_22, up_n _ _ hj]
    have e3 : M1.2.2 16 = upd (M.2.2 16) (900 * s + i) (nI x.1) := by rw [hM1, ma_22, up_s]
    have s2 : sI (hp X C M1 T) (some 51) 0 ((900 : Int32) * nI s + nI i) (M1.2.2 34 i) = some (hp X C (ma M1 17 (upd (M1.2.2 17) (900 * s + i) (nI x.2))) T) := by
      rw [show (900 : Int32) * nI s + nI i = nI (900 * s + i) from ix_m, e2 34 (by decide), c2]
      exact si_51 (by omega)
    obtain ⟨M2, hM2⟩ : ∃ M2, M2 = ma M1 17 (upd (M1.2.2 17) (900 * s + i) (nI x.2)) := ⟨_, rfl⟩
    rw [← hM2] at s2
    have g1 : M2.1 = M.1 := by rw [hM2]; exact e1
    have g2 : ∀ j, j ≠ 16 → j ≠ 17 → M2.2.2 j = M.2.2 j := fun j h1 h2 => by rw [hM2, ma_22, up_n _ _ h2]; exact e2 j h1
    have g3 : M2.2.2 16 = upd (M.2.2 16) (900 * s + i) (nI x.1) := by rw [hM2, ma_22, up_n _ _ (by decide)]; exact e3
    have g4 : M2.2.2 17 = upd (M.2.2 17) (900 * s + i) (nI x.2) := by rw [hM2, ma_22, up_s, e2 17 (by decide)]
    have hc2 : CD M2 D := ⟨by rw [g1]; exact hc.1, by rw [g2 33 (by decide) (by decide), g2 34 (by decide) (by decide)]; exact hc.2⟩
    obtain ⟨M', a1, a2, a3, a4, a5, a6, a7⟩ := ih (i + 1) m' M2 (by omega) (by omega) hc2 (by rw [g1]; exact h36)
    refine ⟨M', ?_, fun j hj => by rw [a2 j hj, g1], a3, fun j h1 h2 h3 => by rw [a4 j h1 h2 h3, g2 j h1 h2], by rw [a5, g2 37 (by decide) (by decide)], fun p hp' => ?_, fun j y h1 hy => ?_⟩
    · show b_X11_rules_189 N _ _ _ _ _ = _
      rw [r189_s (gi_35_31.trans (congrArg some hc.1)) (nI_ge (by omega) (by omega)) gr_35_16 gr_35_33 (ai_53 (by omega)) s1 gr_35_17 gr_35_34 (ai_54 (by omega)) s2, nI_1]
      rw [a1, g1]
    · rw [(a6 p (by omega)).1, (a6 p (by omega)).2, g3, g4]
      exact ⟨if_neg (by omega), if_neg (by omega)⟩
    · by_cases e : j = i
      · subst e
        rw [hx] at hy
        cases hy
        rw [(a6 (900 * s + j) (by omega)).1, (a6 (900 * s + j) (by omega)).2, g3, g4]
        exact ⟨if_pos rfl, if_pos rfl⟩
      · exact a7 j y (by omega) hy
end MCB
