/-! the class reads all lines -/
section VLM
variable {A A1 A2 A3 A4 A5 : LH} {q qt : Option Nat} {N : Nat} {k i how x : Int32}
theorem sl_t (h0 : isO A q 2 = true) (h1 : gR A q 2 0 = some qt) (h2 : gI A qt 7 6 = some k) (h3 : k = 304 ∨ k = 303) : f_X2_startsLine A q = some 1 := by
  unfold f_X2_startsLine b_X2_startsLine
  rw [if_pos h0, bnd_eq h1, bnd_eq h2]
  by_cases h4 : k = 304
  · rw [if_pos h4, zd_1]
  · rw [if_neg h4, bnd_eq h1, bnd_eq h2, if_pos (h3.resolve_left h4), zd_1]
theorem sl_f (h0 : isO A q 2 = true) (h1 : gR A q 2 0 = some qt) (h2 : gI A qt 7 6 = some k) (h3 : ¬ k = 304) (h4 : ¬ k = 303) : f_X2_startsLine A q = some 0 := by
  unfold f_X2_startsLine b_X2_startsLine
  rw [if_pos h0, bnd_eq h1, bnd_eq h2, if_neg h3, bnd_eq h1, bnd_eq h2, if_neg h4, zd_0]
theorem r29_h {k29 : LH → Option Nat → Int32 → Int32 → Option (Option Nat × LH)} (h : (600 : Int32) ≤ i) : b_X2_read_29 N k29 A q how i = b_X2_read_53 N A q how := by
  unfold b_X2_read_29
  rw [if_pos h]
theorem r29_e {k29 : LH → Option Nat → Int32 → Int32 → Option (Option Nat × LH)} (h1 : f_X2_startsLine A q = some x) (hx : x = 0) : b_X2_read_29 N k29 A q how i = b_X2_read_53 N A q how := by
  unfold b_X2_read_29
  by_cases h : (600 : Int32) ≤ i
  · rw [if_pos h]
  · rw [if_neg h, bnd_eq h1, if_pos hx]
theorem r29_l {k29 : LH → Option Nat → Int32 → Int32 → Option (Option Nat × LH)} (h : ¬ (600 : Int32) ≤ i) (h1 : f_X2_startsLine A q = some 1) (h2 : f_X2_readLine N A q = some A1) : b_X2_read_29 N k29 A q how i = k29 A1 q how (i + 1) := by
  unfold b_X2_read_29
  rw [if_neg h, bnd_eq h1, if_neg i1_ne, bnd_eq h2]
theorem r53_0 (h1 : gR A q 2 0 = some qt) (h2 : gI A qt 7 6 = some k) (h3 : k = 0) : b_X2_read_53 N A q how = b_X2_read_67 N A q how := by
  unfold b_X2_read_53
  rw [bnd_eq h1, bnd_eq h2, if_pos h3]
theorem r53_r (h1 : gR A q 2 0 = some qt) (h2 : gI A qt 7 6 = some k) (h3 : ¬ k = 0) (h4 : f_X2_refuse A q = some A1) : b_X2_read_53 N A q how = b_X2_read_67 N A1 q how := by
  unfold b_X2_read_53
  rw [bnd_eq h1, bnd_eq h2, if_neg h3, bnd_eq h4]
theorem rh_n (h0 : isO A q 2 = true) (h1 : f_X2_takes N A q 300 = some (x, A1)) (hx : x = 0) : f_X2_readHow N A q = some (0, A1) := by
  unfold f_X2_readHow b_X2_readHow
  rw [if_pos h0, bnd_eq h1, if_pos hx]
theorem rh_y (h0 : isO A q 2 = true) (h1 : f_X2_takes N A q 300 = some (1, A1)) (h2 : f_X2_choice N A1 q 301 304 = some (x, A2)) (h3 : f_X2_needs N A2 q 59 = some A3) : f_X2_readHow N A q = some (x, A3) := by
  unfold f_X2_readHow b_X2_readHow
  rw [if_pos h0, bnd_eq h1, if_neg i1_ne, bnd_eq h2, bnd_eq h3]
theorem rd_ab {A6 : LH} {p : Option (Option Nat × LH)} (h0 : isO A q 2 = true) (h1 : pF A q 2 5 (LI 0) = some A1) (h2 : pF A1 q 2 6 (LI (-1)) = some A2) (h3 : pF A2 q 2 3 (LI 0) = some A3) (h4 : gR A3 q 2 0 = some qt) (h5 : f_X7_takeApart N A3 qt = some A5) (h8 : f_X2_readHow N A5 q = some (how, A6)) (h9 : l_X2_read_29 N N A6 q how 0 = p) : f_X2_read N A q = p := by
  unfold f_X2_read b_X2_read
  rw [if_pos h0, bnd_eq h1, bnd_eq h2, bnd_eq h3, bnd_eq h4, bnd_eq h5]
  exact (bnd_eq h8).trans h9
end VLM
section VLO
variable {X : XS} {C C' : CS} {M : MS} {T T' T0 : TS} {tp : List Nat} {N : Nat} {r : Nat ⊕ SN} {mu : List Nat} {ls : List LNV} {s : SN} {how : Int32}
theorem Ad.tr {T2 : TS} {a b : Nat} (h : Ad T T' a) (h2 : Ad T' T2 b) : Ad T T2 (a + b) := by
  obtain ⟨h1, h3, h4, h5⟩ := h
  obtain ⟨g1, g3, g4, g5⟩ := h2
  refine ⟨h1.tr g1, by omega, by omega, fun p hp' => ?_⟩
  have := g1.1
  exact (g5 p hp').trans (h5 p (by omega))
theorem Ad.up {a b : Nat} (h : Ad T T' a) (hab : a ≤ b) : Ad T T' b := by
  obtain ⟨h1, h3, h4, h5⟩ := h
  exact ⟨h1, by omega, by omega, h5⟩
def finR (r : Nat ⊕ SN) : Nat ⊕ SN := match r with
  | .inl e => .inl e
  | .inr s => if s.2.1 = 0 then .inr s else .inl s.2.2.2.1
theorem v_fin {m i : Nat} (h : Sv tp C r) (hr : ∀ s, r = .inr s → s.2.1 ≠ 303 ∧ s.2.1 ≠ 304) : ∃ C', l_X2_read_29 N (m + 1) (hp X C M T) (some 11) how (nI i) = b_X2_read_67 N (hp X C' M T) (some 11) how ∧ Sv tp C' (finR r) ∧ CFr C C' := by
  obtain ⟨C1, f1, f2, f3⟩ := v_refuse (X := X) (M := M) (T := T) h
  cases r with
  | inl e =>
    have g1 : gI (hp X C M T) (some 12) 7 6 = some 2 := gi_12_6.trans (congrArg some h.2.1)
    exact ⟨C1, (r29_e (sl_f io_11 gr_11_0 g1 (by decide) (by decide)) rfl).trans (r53_r gr_11_0 g1 (by decide) f1), f2, f3⟩
  | inr s =>
    have hk := h.2.2.1.2.2.2.1
    have g1 : gI (hp X C M T) (some 12) 7 6 = some (nI s.2.1) := gi_12_6.trans (congrArg some h.2.1.1)
    have hs := hr s rfl
    have sl := sl_f io_11 gr_11_0 g1 (show ¬ nI s.2.1 = nI 304 from ne_nI hs.2 (by omega) (by decide)) (show ¬ nI s.2.1 = nI 303 from ne_nI hs.1 (by omega) (by decide))
    show ∃ C', _ ∧ Sv tp C' (if s.2.1 = 0 then .inr s else .inl s.2.2.2.1) ∧ _
    by_cases h0 : s.2.1 = 0
    · rw [if_pos h0]
      exact ⟨C, (r29_e sl rfl).trans (r53_0 gr_11_0 g1 (by rw [h0]; rfl)), h, CFr.rf⟩
    · rw [if_neg h0]
      exact ⟨C1, (r29_e sl rfl).trans (r53_r gr_11_0 g1 (show ¬ nI s.2.1 = nI 0 from ne_nI h0 (by omega) (by decide)) f1), f2, f3⟩
def LnF (tp : List Nat) (mu : List Nat) (T' : TS) (C' : CS) (P : Nat ⊕ (List LNV × SN)) : Prop := match P with
  | .inl e => Sv tp C' (.inl e)
  | .inr x => Sv tp C' (.inr x.2) ∧ LnS mu T' C' x.1
theorem k_lines (hN : 700 ≤ N) : ∀ (n m : Nat) (C : CS) (T : TS) (ls : List LNV) (s : SN), Sv tp C (.inr s) → LnS mu T C ls → 54 ≤ T.1 → (∀ x ∈ mu, x < 8 + T.1) → ls.length ≤ s.2.2.2.1 → tp.length < s.2.2.2.2 + n → n < m → ∃ C' T', l_X2_read_29 N m (hp X C M T) (some 11) how (nI ls.length) = b_X2_read_67 N (hp X C' M T') (some 11) how ∧ LnF tp mu T' C' (pLines tp n ls s) ∧ CFl C C' ∧ Ad T T' (12 - min ls.length 12) := by
  intro n
  induction n with
  | zero =>
    intro m C T ls s h _ _ _ _ hn _
    have := h.2.2.1.2.1
    omega
  | succ n ih =>
    intro m C T ls s h hls h51 hmu hle hn hm
    obtain ⟨m', rfl⟩ : ∃ m', m = m' + 1 := ⟨m - 1, by omega⟩
    obtain ⟨m2, rfl⟩ : ∃ m2, m' = m2 + 1 := ⟨m' - 1, by omega⟩
    unfold pLines
    by_cases hk : s.2.1 = 303 ∨ s.2.1 = 304
    · rw [if_pos hk]
      have hw := h.2.2.1
      have hlen := h.1.2.1
      have e0 := hw.2.2.1 (by omega)
      have hi : ls.length < 600 := by have := hw.2.1; omega
      have g1 : gI (hp X C M T) (some 12) 7 6 = some (nI s.2.1) := gi_12_6.trans (congrArg some h.2.1.1)
      have hk2 : nI s.2.1 = 304 ∨ nI s.2.1 = 303 := by
        rcases hk with z | z
        · rw [z]; exact Or.inr rfl
        · rw [z]; exact Or.inl rfl
      have sl := sl_t (A := hp X C M T) io_11 gr_11_0 g1 hk2
      obtain ⟨C1, T1, k1, k2, k3, k4⟩ := k_line (X := X) (M := M) hN h51 hmu h hls
      have st : l_X2_read_29 N (m2 + 1 + 1) (hp X C M T) (some 11) how (nI ls.length) = l_X2_read_29 N (m2 + 1) (hp X C1 M T1) (some 11) how (nI (ls.length + 1)) := by
        show b_X2_read_29 N _ _ _ _ _ = _
        rw [r29_l (show ¬ nI 600 ≤ nI ls.length from nI_ge hi (by decide)) sl k1, nI_1]
      cases hp' : pLine tp ls.length s with
      | inl e =>
        rw [hp'] at k2
        obtain ⟨C2, l1, l2, l3⟩ := v_fin (X := X) (M := M) (T := T1) (N := N) (how := how) (m := m2) (i := ls.length + 1) (r := .inl e) k2 (fun s z => nomatch z)
        exact ⟨C2, T1, st.trans l1, l2, k3.tr (CFl.of l3), k4.up (by omega)⟩
      | inr x =>
        rw [hp'] at k2
        obtain ⟨k2, k2'⟩ := k2
        obtain ⟨g1, g2, g3, g4, g5⟩ := pl_ok h.1.2.2 hlen hw hp'
        have gx := g1.1
        have hgr := k4.1.1
        have hnx : s.2.2.2.2 ≤ x.2.2.2.2.1 ∨ s.2.2.2.1 < x.2.2.2.2.1 := Or.inr g2
        obtain ⟨C2, T2, l1, l2, l3, l4⟩ := ih (m2 + 1) C1 T1 (ls ++ [x.1]) x.2 k2 k2' (by omega) (fun y hy => by have := hmu y hy; omega) (by rw [List.length_append, List.length_singleton]; omega) (by
          have := pl_nx h.1.2.2 hw hp'
          omega) (by omega)
        rw [List.length_append, List.length_singleton] at l1 l4
        exact ⟨C2, T2, st.trans l1, l2, k3.tr l3, (k4.tr l4).up (by omega)⟩
    · rw [if_neg hk]
      obtain ⟨C2, l1, l2, l3⟩ := v_fin (X := X) (M := M) (T := T) (N := N) (how := how) (m := m2 + 1) (i := ls.length) h (fun s' z => by cases z; omega)
      refine ⟨C2, T, l1, ?_, CFl.of l3, Ad.rf⟩
      have l2' : Sv tp C2 (if s.2.1 = 0 then .inr s else .inl s.2.2.2.1) := l2
      by_cases h0 : s.2.1 = 0
      · rw [if_pos h0] at l2' ⊢
        exact ⟨l2', hls.fr l3⟩
      · rw [if_neg h0] at l2' ⊢
        exact l2'
theorem v_how (hN : 700 ≤ N) (h : Sv tp C (.inr s)) : ∃ v C', f_X2_readHow N (hp X C M T) (some 11) = some (nI v, hp X C' M T) ∧ Sv tp C' (tlr (pHow tp s)) ∧ v < 4 ∧ (∀ x, pHow tp s = .inr x → v = x.1) ∧ CFr C C' := by
  unfold pHow
  by_cases hk : s.2.1 = 300
  · rw [if_pos hk]
    obtain ⟨C1, a1, a2, a3⟩ := v_takes (X := X) (M := M) (T := T) (k := 300) hN h hk
    obtain ⟨v, C2, b1, b2, b3, b4, b5⟩ := v_choice (X := X) (M := M) (T := T) (a := 301) (b := 304) hN a2 (by decide) (by decide) (by decide)
    obtain ⟨C3, c1, c2, c3⟩ := v_needs (X := X) (M := M) (T := T) (k := 59) hN b2 (by decide) (by decide)
    refine ⟨v, C3, rh_y io_11 a1 b1 c1, ?_, by omega, ?_, (a3.tr b5).tr c3⟩
    · have c2' : Sv tp C3 (bdr (tlr (sCh tp 301 304 (s.1, nx tp s.2))) (sNeed tp 59)) := c2
      cases hR : sCh tp 301 304 (s.1, nx tp s.2) with
      | inl e => rw [hR] at c2'; exact c2'
      | inr x =>
        rw [hR] at c2'
        have c2'' : Sv tp C3 (sNeed tp 59 x.2) := c2'
        show Sv tp C3 (tlr (bdr (sNeed tp 59 x.2) fun r2 => .inr (x.1, r2)))
        cases hQ : sNeed tp 59 x.2 with
        | inl e => rw [hQ] at c2''; exact c2''
        | inr y => rw [hQ] at c2''; exact c2''
    · intro x hx
      obtain ⟨a, e1, e2⟩ := bdr_r hx
      obtain ⟨b, e3, e4⟩ := bdr_r e2
      rw [b4 a e1]
      cases e4
      rfl
  · rw [if_neg hk]
    exact ⟨0, C, rh_n io_11 (v_takes_f (k := 300) h (by decide) (by decide) (fun s' z => by cases z; exact hk)) rfl, h, by decide, fun x z => by cases z; rfl, CFr.rf⟩
end VLO
