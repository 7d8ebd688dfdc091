/-! the reference reads all lines -/
section MLI
variable {X : XS} {C : CS} {M M' : MS} {T : TS} {tp : List Nat} {s : SN} {N : Nat} {D : List (Nat × Nat)} {ls : List LNV}
theorem m_line (hN : 700 ≤ N) (h : RLv tp M s D) (hD : D.length ≤ s.2.2.2.1) (hs : RLs M D ls) (hl : ls.length < 1000) (hnt : 12 < ls.length → s.1 ≠ none) (hk : s.2.1 = 303 ∨ s.2.1 = 304) : LnM tp X C T M ls (f_X11_oneLine N (hp X C M T) (some 35)) (pLine tp ls.length s) := by
  have t4 := r_wd (X := X) (C := C) (T := T) h.1.2.1 (i := 4) (by decide) rfl W_4
  have t3 := r_wd (X := X) (C := C) (T := T) h.1.2.1 (i := 3) (by decide) rfl W_3
  have f0 := bl_o (N := N) io_35 t4 t3 (fun z => by
    rcases hk with e | e
    · rw [if_pos (show s.2.1 = 300 + 3 from e)] at z; exact i1_ne z.2
    · rw [if_pos (show s.2.1 = 300 + 4 from e)] at z; exact i1_ne z.1)
  rw [f0]
  refine LnM.zc ?_
  obtain ⟨M0, z1, z2, z3, z4⟩ : ∃ M0, b_X11_oneLine_25 N (hp X C M T) (some 35) = b_X11_oneLine_43 N (hp X C M0 T) (some 35) ∧ RLv tp M0 ((if 12 ≤ ls.length then nte s.1 3 s.2.2.2.1 else s.1), s.2) D ∧ Fr2 M M0 ∧ M0.2.2 32 = M.2.2 32 := by
    have g30 : gI (hp X C M T) (some 35) 11 30 = some (nI ls.length) := gi_35_30.trans (congrArg some hs.1)
    by_cases hc : ls.length = 12
    · rw [if_pos (by omega)]
      obtain ⟨M0, k1, k2, k3, k4, k5⟩ := m_note (X := X) (C := C) (T := T) (c := 3) h (Or.inr rfl)
      exact ⟨M0, bl_25n g30 (by rw [hc]; rfl) (gi_35_20.trans (congrArg some h.1.2.1.2.1)) k1, k2, k3, k4⟩
    · refine ⟨M, bl_25k g30 (show ¬ nI ls.length = nI 12 from ne_nI hc (by omega) (by decide)), ?_, Fr2.rf, rfl⟩
      by_cases h12 : 12 ≤ ls.length
      · rw [if_pos h12]
        obtain ⟨n, τ⟩ := s
        cases n with
        | none => exact absurd rfl (hnt (by omega))
        | some x => exact h
      · rw [if_neg h12]; exact h
  have g30 : gI (hp X C M0 T) (some 35) 11 30 = some (nI ls.length) := by
    rw [gi_35_30, z3.1 30 (by decide), hs.1]
  have hkk : (if (12 : Int32) ≤ nI ls.length then (12 : Int32) else nI ls.length) = nI (min ls.length 12) := by
    by_cases h12 : 12 ≤ ls.length
    · rw [if_pos (show (12 : Int32) ≤ nI ls.length from nI_le (a := 12) h12 (by omega)), Nat.min_eq_right h12]; rfl
    · rw [if_neg (show ¬ (12 : Int32) ≤ nI ls.length from nI_ge (b := 12) (by omega) (by decide)), Nat.min_eq_left (by omega)]
  obtain ⟨v1, hv1⟩ : ∃ v1, s.2.1 = 303 + v1 := ⟨s.2.1 - 303, by omega⟩
  have t4' := r_wd (X := X) (C := C) (T := T) z2.1.2.1 (i := 4) (by decide) rfl W_4
  have hv : (if (if s.2.1 = 300 + 4 then (1 : Int32) else 0) = 0 then (0 : Int32) else 1) = nI v1 := by
    rw [ite10]
    rcases (show v1 = 0 ∨ v1 = 1 by omega) with rfl | rfl
    · rw [if_neg (by omega)]; rfl
    · rw [if_pos (by omega)]; rfl
  have h8 : (8 : Int32) * nI (min ls.length 12) = nI (8 * min ls.length 12) := nI_ml 8 _
  have b63 := bl_63 (N := N) (y := nI (min ls.length 12)) (gr_35_32 (X := X) (C := C) (M := M0) (T := T)) t4'
  have b63' : b_X11_oneLine_63 N (hp X C M0 T) (some 35) (nI (min ls.length 12)) 8 = b_X11_oneLine_85 N (hp X C M0 T) (some 35) (8 * nI (min ls.length 12)) (if (if s.2.1 = 300 + 4 then (1 : Int32) else 0) = 0 then (0 : Int32) else 1) (8 * nI (min ls.length 12)) (some 52) := b63
  rw [z1, bl_43 g30, hkk, b63', hv, h8, pl_flat]
  have hq : sCh tp 303 304 ((if 12 ≤ ls.length then nte s.1 3 s.2.2.2.1 else s.1), s.2) = .inr (v1, (if 12 ≤ ls.length then nte s.1 3 s.2.2.2.1 else s.1), nx tp s.2) := by
    have e : s.2.1 - 303 = v1 := by omega
    unfold sCh
    rw [if_pos (show 303 ≤ s.2.1 ∧ s.2.1 ≤ 304 by omega), e]
  rw [hq]
  have hs0 : RLs M D ls := hs
  exact m_85 (X := X) (C := C) (T := T) (k := min ls.length 12) (v1 := v1) (M0 := M) hN z2 hD hs0 rfl z3 z4
theorem tm_end {τ : TOK} (h : TM M τ) : M.1 21 = 0 ↔ τ.1 = 0 := by
  rcases h.1 with h1 | h1 | h1 | h1 | ⟨v, h2, h3, h4, h5⟩
  · exact ⟨fun _ => h1.1, fun _ => h1.2⟩
  · rw [h1.2.1]; exact ⟨fun z => absurd z (by decide), fun z => by omega⟩
  · rw [h1.2]; exact ⟨fun z => absurd z (by decide), fun z => by omega⟩
  · have := gL_lt h1.1
    rw [h1.2.1]; exact ⟨fun z => absurd z (by decide), fun z => by omega⟩
  · rw [h3]
    refine ⟨fun z => absurd z (by decide), fun z => ?_⟩
    rcases kOf_2 v with h6 | h6 <;> omega
section MLJ
variable {A A1 : LH} {q : Option Nat} {v x d : Int32} {k73 : LH → Option Nat → Int32 → Int32 → Option (Int32 × LH)}
theorem r73_0 (hd : d = 0) : b_X11_rules_73 N k73 A q v d = b_X11_rules_92 N A q v := by
  unfold b_X11_rules_73
  rw [if_pos hd]
theorem r73_e (h1 : gI A q 11 21 = some x) (hx : x = 0) : b_X11_rules_73 N k73 A q v 1 = b_X11_rules_92 N A q v := by
  unfold b_X11_rules_73
  rw [if_neg i1_ne, bnd_eq h1, if_pos hx]
theorem r73_l (h1 : gI A q 11 21 = some x) (hx : ¬ x = 0) (h2 : f_X11_oneLine N A q = some (d, A1)) : b_X11_rules_73 N k73 A q v 1 = k73 A1 q v d := by
  unfold b_X11_rules_73
  rw [if_neg i1_ne, bnd_eq h1, if_neg hx, bnd_eq h2]
end MLJ
def LnsM (tp : List Nat) (X : XS) (C : CS) (T : TS) (N : Nat) (v : Int32) (M : MS) (F : Option (Int32 × LH)) (P : Nat ⊕ (List LNV × SN)) : Prop := match P with
  | .inl e => ∃ M', F = b_X11_rules_92 N (hp X C M' T) (some 35) v ∧ RDd M' e ∧ Fr3 M M'
  | .inr x => ∃ M' D', F = b_X11_rules_92 N (hp X C M' T) (some 35) v ∧ RLv tp M' x.2 D' ∧ D'.length ≤ 600 ∧ RLs M' D' x.1 ∧ Fr3 M M'
theorem m_lines {v : Int32} (hN : 700 ≤ N) : ∀ (n m : Nat) (M : MS) (s : SN) (D : List (Nat × Nat)) (ls : List LNV), RLv tp M s D → D.length ≤ s.2.2.2.1 → RLs M D ls → ls.length ≤ s.2.2.2.1 → (12 < ls.length → s.1 ≠ none) → tp.length < s.2.2.2.2 + n → n < m → LnsM tp X C T N v M (l_X11_rules_73 N m (hp X C M T) (some 35) v 1) (pLines tp n ls s) := by
  intro n
  induction n with
  | zero =>
    intro m M s D ls h _ _ _ _ hn _
    have := h.1.2.2.1.2.1
    omega
  | succ n ih =>
    intro m M s D ls h hD hs hle hnt hn hm
    obtain ⟨m', rfl⟩ : ∃ m', m = m' + 1 := ⟨m - 1, by omega⟩
    obtain ⟨m2, rfl⟩ : ∃ m2, m' = m2 + 1 := ⟨m' - 1, by omega⟩
    have hw := h.1.2.2.1
    have hb := h.1.1.2.2
    have hlen := h.1.1.2.1
    have hp600 := h.1.le
    unfold pLines
    by_cases hk : s.2.1 = 303 ∨ s.2.1 = 304
    · rw [if_pos hk]
      have h21 : ¬ M.1 21 = 0 := fun z => by have := (tm_end h.1.2.1).mp z; omega
      have hh := m_line (X := X) (C := C) (T := T) hN h hD hs (by omega) hnt hk
      cases hp' : pLine tp ls.length s with
      | inl e =>
        rw [hp'] at hh
        obtain ⟨M1, k1, k2, k3⟩ := hh
        refine ⟨M1, ?_, k2, k3⟩
        show b_X11_rules_73 N _ _ _ _ _ = _
        rw [r73_l gi_35_21 h21 k1]
        exact r73_0 rfl
      | inr x =>
        rw [hp'] at hh
        obtain ⟨M1, D1, k1, k2, k3, k4, k5⟩ := hh
        obtain ⟨g1, g2, g3, g4, g5⟩ := pl_ok hb hlen hw hp'
        have hnx := pl_nx hb hw hp'
        have hr := ih (m2 + 1) M1 x.2 D1 (ls ++ [x.1]) k2 k3 k4 (by rw [List.length_append, List.length_singleton]; omega) (fun z hz => by
          rw [List.length_append, List.length_singleton] at z
          have := (g4 hz).2.1
          omega) (by omega) (by omega)
        have st : l_X11_rules_73 N (m2 + 1 + 1) (hp X C M T) (some 35) v 1 = l_X11_rules_73 N (m2 + 1) (hp X C M1 T) (some 35) v 1 := by
          show b_X11_rules_73 N _ _ _ _ _ = _
          rw [r73_l gi_35_21 h21 k1]
        rw [st]
        show LnsM tp X C T N v M _ (pLines tp n (ls ++ [x.1]) x.2)
        cases hq : pLines tp n (ls ++ [x.1]) x.2 with
        | inl e =>
          rw [hq] at hr
          obtain ⟨M2, l1, l2, l3⟩ := hr
          exact ⟨M2, l1, l2, k5.tr l3⟩
        | inr y =>
          rw [hq] at hr
          obtain ⟨M2, D2, l1, l2, l3, l4, l5⟩ := hr
          exact ⟨M2, D2, l1, l2, l3, l4, k5.tr l5⟩
    · rw [if_neg hk]
      by_cases h0 : s.2.1 = 0
      · rw [if_pos h0]
        refine ⟨M, D, ?_, h, by omega, hs, ⟨fun _ _ => rfl, fun _ _ _ _ => rfl⟩⟩
        show b_X11_rules_73 N _ _ _ _ _ = _
        exact r73_e gi_35_21 ((tm_end h.1.2.1).mpr h0)
      · rw [if_neg h0]
        have h21 : ¬ M.1 21 = 0 := fun z => h0 ((tm_end h.1.2.1).mp z)
        obtain ⟨M1, k1, k2, k3⟩ := m_wrong (X := X) (C := C) (T := T) h
        have t4 := r_word_f (X := X) (C := C) (T := T) (i := 4) h.1.2.1 (by decide) rfl W_4 (by omega)
        have t3 := r_word_f (X := X) (C := C) (T := T) (i := 3) h.1.2.1 (by decide) rfl W_3 (by omega)
        refine ⟨M1, ?_, k2, Fr3.of k3⟩
        show b_X11_rules_73 N _ _ _ _ _ = _
        rw [r73_l gi_35_21 h21 (bl_ow io_35 t4 rfl t3 rfl k1)]
        exact r73_0 rfl
end MLI
