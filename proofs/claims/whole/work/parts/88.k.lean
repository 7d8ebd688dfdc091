/-! the reference's rules -/
section MRA
variable {X : XS} {C : CS} {M M' : MS} {T : TS} {tp : List Nat} {N : Nat} {s : Nat}
/-- but for the slot s -/
def Out (s : Nat) (M M' : MS) : Prop := (∀ p, p ≠ s → M'.2.2 13 p = M.2.2 13 p ∧ M'.2.2 14 p = M.2.2 14 p) ∧ (∀ p, p < 96 * s ∨ 96 * s + 96 ≤ p → M'.2.2 15 p = M.2.2 15 p) ∧ ∀ p, p < 900 * s ∨ 900 * s + 900 ≤ p → M'.2.2 16 p = M.2.2 16 p ∧ M'.2.2 17 p = M.2.2 17 p
/-- what became of the call -/
def RuM (s t : Nat) (M M' : MS) (r : Int32) (P : Option RSV) : Prop := match P with
  | none => r = -1 ∧ M'.1 36 = M.1 36 ∧ ∀ j, j ≠ 32 → j ≠ 33 → j ≠ 34 → M'.2.2 j = M.2.2 j
  | some rs => r = nI rs.2.length ∧ M'.1 36 = nI (t + 1) ∧ (∀ j, j < 13 ∨ 37 < j → M'.2.2 j = M.2.2 j) ∧ M'.2.2 37 = upd (M.2.2 37) s (nI (t + 1)) ∧ MRs M' s rs ∧ Out s M M'
/-- keeping -/
theorem m_keepR {t how : Nat} {sn : SN} {ls : List LNV} {D : List (Nat × Nat)} (hN : 700 ≤ N) (hs : s < 4) (h : RLv tp M sn D) (hD : D.length ≤ 600) (hl : RLs M D ls) (h12 : ls.length ≤ 12) (h29 : M.1 29 = nI how) (h36 : M.1 36 = nI t) : ∃ M', b_X11_rules_122 N (hp X C M T) (some 35) (nI s) = some (nI ls.length, hp X C M' T) ∧ (∀ j, j ≠ 36 → M'.1 j = M.1 j) ∧ M'.1 36 = nI (t + 1) ∧ (∀ j, j < 13 ∨ 17 < j → j ≠ 37 → M'.2.2 j = M.2.2 j) ∧ M'.2.2 37 = upd (M.2.2 37) s (nI (t + 1)) ∧ MRs M' s (how, ls) ∧ Out s M M' := by
  have s1 : sI (hp X C M T) (some 47) 0 (nI s) (nI how) = some (hp X C (ma M 13 (upd (M.2.2 13) s (nI how))) T) := si_47 (by omega)
  obtain ⟨M1, hM1⟩ : ∃ M1, M1 = ma M 13 (upd (M.2.2 13) s (nI how)) := ⟨_, rfl⟩
  rw [← hM1] at s1
  have e1 : M1.1 = M.1 := by rw [hM1]; rfl
  have e2 : ∀ j, j ≠ 13 → M1.2.2 j = M.2.2 j := fun j hj => by rw [hM1]; exact ma_n _ _ hj
  have e3 : M1.2.2 13 = upd (M.2.2 13) s (nI how) := by rw [hM1, ma_22, up_s]
  have s2 : sI (hp X C M1 T) (some 48) 0 (nI s) (nI ls.length) = some (hp X C (ma M1 14 (upd (M1.2.2 14) s (nI ls.length))) T) := si_48 (by omega)
  obtain ⟨M2, hM2⟩ : ∃ M2, M2 = ma M1 14 (upd (M1.2.2 14) s (nI ls.length)) := ⟨_, rfl⟩
  rw [← hM2] at s2
  have g1 : M2.1 = M.1 := by rw [hM2]; exact e1
  have g2 : ∀ j, j ≠ 13 → j ≠ 14 → M2.2.2 j = M.2.2 j := fun j h1 h2 => by rw [hM2, ma_n _ _ h2]; exact e2 j h1
  have g3 : M2.2.2 13 = upd (M.2.2 13) s (nI how) := by rw [hM2, ma_n _ _ (by decide)]; exact e3
  have g4 : M2.2.2 14 = upd (M.2.2 14) s (nI ls.length) := by rw [hM2, ma_22, up_s, e2 14 (by decide)]
  obtain ⟨M3, a1, a2, a3, a4, a5⟩ := m_153 (X := X) (C := C) (T := T) N hs h12 (8 * ls.length) 0 N M2 (by omega) (by omega) (by rw [g1]; exact hl.1)
  have cd3 : CD M3 D := ⟨by rw [a2, g1]; exact h.1.2.2.2.1, by rw [a3 33 (by decide), a3 34 (by decide), g2 33 (by decide) (by decide), g2 34 (by decide) (by decide)]; exact h.1.2.2.2.2⟩
  obtain ⟨M4, b1, b2, b3, b4, b5, b6, b7⟩ := m_189 (X := X) (C := C) (T := T) (t := t) N hs hD D.length 0 N M3 (by omega) (by omega) cd3 (by rw [a2, g1]; exact h36)
  have r13 : M4.2.2 13 = upd (M.2.2 13) s (nI how) := by rw [b4 13 (by decide) (by decide) (by decide), a3 13 (by decide), g3]
  have r14 : M4.2.2 14 = upd (M.2.2 14) s (nI ls.length) := by rw [b4 14 (by decide) (by decide) (by decide), a3 14 (by decide), g4]
  have r15 : M4.2.2 15 = M3.2.2 15 := b4 15 (by decide) (by decide) (by decide)
  have h30 : M3.1 30 = nI ls.length := by rw [a2, g1]; exact hl.1
  refine ⟨M4, ?_, fun j hj => by rw [b2 j hj, a2, g1], b3, fun j h1 h2 => ?_, ?_, ⟨?_, ?_, fun k l hk => ?_⟩, fun p hp' => ?_, fun p hp' => ?_, fun p hp' => ?_⟩
  · rw [r122_t (gi_35_24.trans (congrArg some h.2.2.2.1)) (Int32.le_refl 0) gr_35_13 (gi_35_29.trans (congrArg some h29)) s1 gr_35_14 (by rw [gi_35_30, e1]; exact congrArg some hl.1) s2]
    rw [h30] at b1
    exact a1.trans b1
  · rw [b4 j (by omega) (by omega) h2, a3 j (by omega), g2 j (by omega) (by omega)]
  · rw [b5, a3 37 (by decide), g2 37 (by decide) (by decide)]
  · rw [r13]; exact if_pos rfl
  · rw [r14]; exact if_pos rfl
  · have hkl := at_lt hk
    have hkl : k < ls.length := hkl
    obtain ⟨c0', c1, c2, c3, c4, c5, c6⟩ := hl.2 k l (by omega) hk
    have cp : ∀ j, j < 8 → M4.2.2 15 (96 * s + (8 * k + j)) = M.2.2 32 (8 * k + j) := fun j hj => by
      rw [r15, a5 (8 * k + j) (Nat.zero_le _) (by omega), g2 32 (by decide) (by decide)]
    refine ⟨(cp 0 (by decide)).trans c0', (cp 1 (by decide)).trans c1, (cp 2 (by decide)).trans c2, (cp 3 (by decide)).trans c3, (cp 4 (by decide)).trans c4, (cp 5 (by decide)).trans c5, ?_⟩
    rcases c6 with ⟨d1, d2⟩ | ⟨d1, off, d2, d3, d4⟩
    · exact Or.inl ⟨d1, (cp 6 (by decide)).trans d2⟩
    · exact Or.inr ⟨d1, off, by omega, (cp 6 (by decide)).trans d2, fun i x hx => b7 (off + i) x (Nat.zero_le _) (d4 i x hx)⟩
  · rw [r13, r14]
    exact ⟨if_neg hp', if_neg hp'⟩
  · rw [r15, a4 p (by omega), g2 15 (by decide) (by decide)]
  · rw [(b6 p (by omega)).1, (b6 p (by omega)).2, a3 16 (by decide), a3 17 (by decide), g2 16 (by decide) (by decide), g2 17 (by decide) (by decide)]
    exact ⟨rfl, rfl⟩
theorem m_rules {t : Nat} (hN : 700 ≤ N) (hs : s < 4) (htp : MTape tp (M.1 2) (M.2.2 1)) (hlen : tp.length ≤ 600) (hb : ∀ x ∈ tp, x < 256) (h36 : M.1 36 = nI t) : ∃ r M', f_X11_rules N (hp X C M T) (some 35) (nI s) = some (r, hp X C M' T) ∧ (M'.1 24, M'.1 25) = fltR (pRules tp) ∧ M'.1 2 = 0 ∧ (∀ j, j ≠ 0 → j ≠ 36 → j ≠ 2 → j < 18 ∨ 35 < j → M'.1 j = M.1 j) ∧ RuM s t M M' r (rulR (pRules tp)) := by
  obtain ⟨M1, hM1⟩ : ∃ M1, M1 = m0 (m0 (m0 (m0 (m0 (m0 (m0 (m0 (m0 (m0 M 0 0) 19 (M.1 2)) 2 0) 18 0) 24 0) 25 (-1)) 26 0) 28 0) 31 0) 30 0 := ⟨_, rfl⟩
  have x30 : M1.1 30 = 0 := by rw [hM1]; exact m0_s
  have x31 : M1.1 31 = 0 := by rw [hM1, m0_n (by decide)]; exact m0_s
  have x28 : M1.1 28 = 0 := by rw [hM1, m0_n (by decide), m0_n (by decide)]; exact m0_s
  have x26 : M1.1 26 = 0 := by rw [hM1, m0_n (by decide), m0_n (by decide), m0_n (by decide)]; exact m0_s
  have x25 : M1.1 25 = -1 := by rw [hM1, m0_n (by decide), m0_n (by decide), m0_n (by decide), m0_n (by decide)]; exact m0_s
  have x24 : M1.1 24 = 0 := by rw [hM1, m0_n (by decide), m0_n (by decide), m0_n (by decide), m0_n (by decide), m0_n (by decide)]; exact m0_s
  have x18 : M1.1 18 = nI 0 := by rw [hM1, m0_n (by decide), m0_n (by decide), m0_n (by decide), m0_n (by decide), m0_n (by decide), m0_n (by decide)]; exact m0_s
  have x2 : M1.1 2 = 0 := by rw [hM1, m0_n (by decide), m0_n (by decide), m0_n (by decide), m0_n (by decide), m0_n (by decide), m0_n (by decide), m0_n (by decide)]; exact m0_s
  have x19 : M1.1 19 = M.1 2 := by rw [hM1, m0_n (by decide), m0_n (by decide), m0_n (by decide), m0_n (by decide), m0_n (by decide), m0_n (by decide), m0_n (by decide), m0_n (by decide)]; exact m0_s
  have xj : ∀ j, j ≠ 0 → j ≠ 2 → j < 18 ∨ 35 < j → M1.1 j = M.1 j := fun j h1 h2 h3 => by rw [hM1, m0_n (by omega), m0_n (by omega), m0_n (by omega), m0_n (by omega), m0_n (by omega), m0_n (by omega), m0_n (by omega), m0_n (by omega), m0_n (by omega), m0_n (by omega)]
  have xr : M1.2.2 = M.2.2 := by rw [hM1]; rfl
  have mp1 : MP tp M1 := ⟨by rw [x19, xr]; exact htp, hlen, hb⟩
  obtain ⟨M2, n1, n2, n3⟩ := m_next (X := X) (C := C) (T := T) N hN mp1 x18 (Nat.zero_le _)
  have w0 := (tok_wf (tp := tp) (i := 0) (Nat.zero_le _) hb).1
  have lv2 : RLv tp M2 (none, tok tp 0) [] := ⟨⟨mp1.mt n3, n2, w0, by rw [n3.1 31 (by decide), x31]; rfl, fun i x hx => (nomatch hx)⟩, by rw [n3.1 28 (by decide), x28]; rfl, (n3.1 26 (by decide)).trans x26, (n3.1 24 (by decide)).trans x24, (n3.1 25 (by decide)).trans x25⟩
  have fr2 : Fr1 M1 M2 := ⟨fun j hj => n3.1 j (by omega), fun j _ _ _ => by rw [n3.2]⟩
  have go : ∀ (d : Int32) (M3 : MS) (P : Option (Int32 × LH)), f_X11_beginning N (hp X C M2 T) (some 35) = some (d, hp X C M3 T) → l_X11_rules_73 N N (hp X C M3 T) (some 35) (nI s) d = P → f_X11_rules N (hp X C M T) (some 35) (nI s) = P := fun d M3 P h1 h2 => by
    refine ru_ab io_35 (pi_35_0 0) (isSl_t hs) (x := M.1 2) (by rw [gi_35_2, m0_n (by decide)]) (pi_35_19 _) (pi_35_2 _) (pi_35_18 _) (pi_35_24 _) (pi_35_25 _) (pi_35_26 _) (pi_35_28 _) (pi_35_31 _) (pi_35_30 _) ?_ h1 h2
    rw [hM1] at n1
    exact n1
  have fail : ∀ (M4 : MS) (e : Nat), b_X11_rules_92 N (hp X C M4 T) (some 35) (nI s) = b_X11_rules_92 N (hp X C M4 T) (some 35) (nI s) → RDd M4 e → b_X11_rules_92 N (hp X C M4 T) (some 35) (nI s) = some (-1, hp X C M4 T) := fun M4 e _ hd => by
    rw [r92_d (gi_35_24.trans (congrArg some hd.1)) i1_ne, r122_f (gi_35_24.trans (congrArg some hd.1)) (by decide)]
  obtain ⟨m, rfl⟩ : ∃ m, N = m + 1 := ⟨N - 1, by omega⟩
  have hh := m_begin (X := X) (C := C) (T := T) hN lv2
  unfold pRules
  cases hH : pHow tp (none, tok tp 0) with
  | inl e =>
    rw [hH] at hh
    obtain ⟨M3, k1, k2, k3⟩ := hh
    have fr := fr2.tr k3
    refine ⟨-1, M3, go 0 M3 _ k1 ((r73_0 rfl).trans (fail M3 e rfl k2)), ?_, ?_, fun j h1 h2 h3 h4 => ?_, rfl, ?_, fun j h1 h2 h3 => ?_⟩
    · show (M3.1 24, M3.1 25) = (1, nI e)
      rw [k2.1, k2.2]
    · rw [fr.1 2 (by decide), x2]
    · rw [fr.1 j (by omega), xj j h1 h3 h4]
    · rw [fr.1 36 (by decide), xj 36 (by decide) (by decide) (by decide)]
    · rw [fr.2 j h1 h2 h3, xr]
  | inr x =>
    rw [hH] at hh
    obtain ⟨M3, k1, k2, k3, k4⟩ := hh
    have fr3 := fr2.tr k3
    obtain ⟨p1, p2, p3⟩ := how_ok (s := (none, tok tp 0)) hb w0 hH
    have ls0 : RLs M3 [] [] := ⟨by rw [fr3.1 30 (by decide), x30]; rfl, fun i l _ hl => (nomatch hl)⟩
    have hl := m_lines (X := X) (C := C) (T := T) (v := nI s) hN 601 (m + 1) M3 x.2 [] [] k2 (Nat.zero_le _) ls0 (Nat.zero_le _) (fun z => absurd z (by decide)) (by omega) (by omega)
    show ∃ (r : Int32) (M' : MS), _ ∧ (M'.1 24, M'.1 25) = fltR (bdr (pLines tp 601 [] x.2) fun q => .inr ((x.1, q.1), q.2.1)) ∧ _ ∧ _ ∧ RuM s t M M' r (rulR (bdr (pLines tp 601 [] x.2) fun q => .inr ((x.1, q.1), q.2.1)))
    cases hL : pLines tp 601 [] x.2 with
    | inl e =>
      rw [hL] at hl
      obtain ⟨M4, l1, l2, l3⟩ := hl
      refine ⟨-1, M4, go 1 M3 _ k1 (l1.trans (fail M4 e rfl l2)), ?_, ?_, fun j h1 h2 h3 h4 => ?_, rfl, ?_, fun j h1 h2 h3 => ?_⟩
      · show (M4.1 24, M4.1 25) = (1, nI e)
        rw [l2.1, l2.2]
      · rw [l3.1 2 (by decide), fr3.1 2 (by decide), x2]
      · rw [l3.1 j (by omega), fr3.1 j (by omega), xj j h1 h3 h4]
      · rw [l3.1 36 (by decide), fr3.1 36 (by decide), xj 36 (by decide) (by decide) (by decide)]
      · rw [l3.2 j h1 h2 h3, fr3.2 j h1 h2 h3, xr]
    | inr y =>
      rw [hL] at hl
      obtain ⟨M4, D, l1, l2, l3, l4, l5⟩ := hl
      have f24 : gI (hp X C M4 T) (some 35) 11 24 = some 0 := gi_35_24.trans (congrArg some l2.2.2.2.1)
      have nt := l2.2.2.1
      show ∃ (r : Int32) (M' : MS), _ ∧ (M'.1 24, M'.1 25) = (match y.2.1 with
        | none => (0, -1)
        | some y => (nI y.1, nI y.2)) ∧ _ ∧ _ ∧ RuM s t M M' r (match y.2.1 with
          | none => some (x.1, y.1)
          | some _ => none)
      cases hn : y.2.1 with
      | some z =>
        rw [hn] at nt
        obtain ⟨q1, q2, q3⟩ := nt
        have zl : z.1 < 1000 := by omega
        have b92 := r92_n (N := m + 1) (v := nI s) f24 rfl (gi_35_26.trans (congrArg some q1)) (show ¬ nI z.1 ≤ nI 0 from nI_ge (by omega) (by omega)) (pi_35_24 _) (z := nI z.2) (by rw [gi_35_27, m0_n (by decide), q2]) (pi_35_25 _)
        have b122 : b_X11_rules_122 (m + 1) (hp X C (m0 (m0 M4 24 (nI z.1)) 25 (nI z.2)) T) (some 35) (nI s) = some (-1, hp X C (m0 (m0 M4 24 (nI z.1)) 25 (nI z.2)) T) := r122_f (x := nI z.1) (by rw [gi_35_24, m0_n (by decide), m0_s]) (show ¬ nI z.1 ≤ nI 0 from nI_ge (by omega) (by omega))
        refine ⟨-1, m0 (m0 M4 24 (nI z.1)) 25 (nI z.2), go 1 M3 _ k1 (l1.trans (b92.trans b122)), ?_, ?_, fun j h1 h2 h3 h4 => ?_, rfl, ?_, fun j h1 h2 h3 => ?_⟩
        · show ((m0 (m0 M4 24 (nI z.1)) 25 (nI z.2)).1 24, (m0 (m0 M4 24 (nI z.1)) 25 (nI z.2)).1 25) = (nI z.1, nI z.2)
          rw [m0_n (by decide), m0_s, m0_s]
        · rw [m0_n (by decide), m0_n (by decide), l5.1 2 (by decide), fr3.1 2 (by decide), x2]
        · rw [m0_n (by omega), m0_n (by omega), l5.1 j (by omega), fr3.1 j (by omega), xj j h1 h3 h4]
        · rw [m0_n (by decide), m0_n (by decide), l5.1 36 (by decide), fr3.1 36 (by decide), xj 36 (by decide) (by decide) (by decide)]
        · show M4.2.2 j = M.2.2 j
          rw [l5.2 j h1 h2 h3, fr3.2 j h1 h2 h3, xr]
      | none =>
        rw [hn] at nt
        obtain ⟨i1, ex, i2, i3, i4⟩ := pls_ok hb hlen 601 [] x.2 y p2 hL hn
        rw [List.nil_append] at i2
        have h12 : y.1.length ≤ 12 := by
          rcases i4 with rfl | i4
          · rw [i2]; decide
          · exact i4
        have h36' : M4.1 36 = nI t := by rw [l5.1 36 (by decide), fr3.1 36 (by decide), xj 36 (by decide) (by decide) (by decide), h36]
        obtain ⟨M5, c1, c2, c3, c4, c5, c6, c7⟩ := m_keepR (X := X) (C := C) (T := T) (t := t) (how := x.1) (ls := y.1) hN hs l2 l3 l4 h12 ((l5.1 29 (by decide)).trans k4) h36'
        have b92 := r92_0 (N := m + 1) (v := nI s) f24 rfl (gi_35_26.trans (congrArg some nt)) (Int32.le_refl 0)
        have rw4 : ∀ j, j < 13 ∨ 37 < j → M4.2.2 j = M.2.2 j := fun j hj => by rw [l5.2 j (by omega) (by omega) (by omega), fr3.2 j (by omega) (by omega) (by omega), xr]
        have rw5 : ∀ j, 13 ≤ j → j ≤ 17 → M4.2.2 j = M.2.2 j := fun j h1 h2 => by rw [l5.2 j (by omega) (by omega) (by omega), fr3.2 j (by omega) (by omega) (by omega), xr]
        refine ⟨nI y.1.length, M5, go 1 M3 _ k1 (l1.trans (b92.trans c1)), ?_, ?_, fun j h1 h2 h3 h4 => ?_, rfl, c3, fun j hj => ?_, ?_, c6, fun p hp' => ?_, fun p hp' => ?_, fun p hp' => ?_⟩
        · show (M5.1 24, M5.1 25) = (0, -1)
          rw [c2 24 (by decide), c2 25 (by decide), l2.2.2.2.1, l2.2.2.2.2]
        · rw [c2 2 (by decide), l5.1 2 (by decide), fr3.1 2 (by decide), x2]
        · rw [c2 j h2, l5.1 j (by omega), fr3.1 j (by omega), xj j h1 h3 h4]
        · rw [c4 j (by omega) (by omega), rw4 j hj]
        · rw [c5, l5.2 37 (by decide) (by decide) (by decide), fr3.2 37 (by decide) (by decide) (by decide), xr]
        · rw [(c7.1 p hp').1, (c7.1 p hp').2, rw5 13 (by decide) (by decide), rw5 14 (by decide) (by decide)]
          exact ⟨rfl, rfl⟩
        · rw [c7.2.1 p hp', rw5 15 (by decide) (by decide)]
        · rw [(c7.2.2 p hp').1, (c7.2.2 p hp').2, rw5 16 (by decide) (by decide), rw5 17 (by decide) (by decide)]
          exact ⟨rfl, rfl⟩
end MRA
