/-! the class reads RULES: the whole -/
section VRE
variable {X : XS} {C C' : CS} {M : MS} {T T' : TS} {tp : List Nat} {N : Nat} {mu : List Nat}
/-- FAULTs of what was read: the kind, its place -/
def fltR (P : Nat ⊕ (RSV × NT)) : Int32 × Int32 := match P with
  | .inl e => (1, nI e)
  | .inr x => match x.2 with
    | none => (0, -1)
    | some y => (nI y.1, nI y.2)
/-- RULES that were read -/
def rulR (P : Nat ⊕ (RSV × NT)) : Option RSV := match P with
  | .inl _ => none
  | .inr x => match x.2 with
    | none => some x.1
    | some _ => none
theorem k_read (hN : 700 ≤ N) (h51 : 54 ≤ T.1) (hmu : ∀ x ∈ mu, x < 8 + T.1) (hp' : TP tp C) : ∃ q C' T', f_X2_read N (hp X C M T) (some 11) = some (q, hp X C' M T') ∧ (C'.1 7, C'.1 8) = fltR (pRules tp) ∧ (match rulR (pRules tp) with
    | none => q = none
    | some rs => ∃ p, q = some p ∧ 62 ≤ p ∧ isRl mu T' p rs) ∧ CFl C C' ∧ Gr T T' ∧ T'.1 ≤ T.1 + 27 ∧ T'.2.1 ≤ T.2.1 + 7311 ∧ ∀ q, 8 + T'.1 ≤ q → T'.2.2 q = T.2.2 q := by
  obtain ⟨C0, hC0⟩ : ∃ C0, C0 = c0 (c0 (c0 C 7 0) 8 (-1)) 5 0 := ⟨_, rfl⟩
  have f0 : CFl C C0 := by
    rw [hC0]
    exact ⟨fun j hj => by rw [c0_n (by omega), c0_n (by omega), c0_n (by omega)], fun _ _ => rfl, fun _ _ => rfl⟩
  have tp0 : TP tp C0 := by
    refine ⟨?_, hp'.2⟩
    rw [f0.1 0 (by decide), f0.2.2 0 (by decide)]; exact hp'.1
  have e5 : C0.1 5 = 0 := by rw [hC0, c0_s]
  have e8 : C0.1 8 = -1 := by rw [hC0, c0_n (by decide), c0_s]
  have e7 : C0.1 7 = 0 := by rw [hC0, c0_n (by decide), c0_n (by decide), c0_s]
  obtain ⟨C1, k1, k2, k3⟩ := k_apart (X := X) (M := M) (T := T) N hN tp0
  have w0 := (tok_wf (tp := tp) (i := 0) (Nat.zero_le _) hp'.2.2).1
  have hb := hp'.2.2
  have hlen := hp'.2.1
  have sv1 : Sv tp C1 (.inr (none, tok tp 0)) := ⟨tp0.ca k3, k2, w0, (k3.1 7 (by decide)).trans e7, (k3.1 8 (by decide)).trans e8⟩
  obtain ⟨v, C2, a1, a2, a3, a4, a5⟩ := v_how (X := X) (M := M) (T := T) hN sv1
  have f2 : CFl C C2 := (f0.tr (CFl.oa k3)).tr (CFl.of a5)
  have ls0 : LnS mu T C2 [] := by
    refine ⟨?_, fun i l _ hl => (nomatch hl)⟩
    rw [a5.1 5 (by decide), k3.1 5 (by decide), e5]; rfl
  have rd : ∀ p, l_X2_read_29 N N (hp X C2 M T) (some 11) (nI v) 0 = p → f_X2_read N (hp X C M T) (some 11) = p := fun p hp2 => by
    refine rd_ab io_11 (pi_11_5 _) (pi_11_6 _) (pi_11_3 _) gr_11_0 ?_ a1 hp2
    rw [hC0] at k1
    exact k1
  obtain ⟨m, rfl⟩ : ∃ m, N = m + 1 := ⟨N - 1, by omega⟩
  unfold pRules
  cases hH : pHow tp (none, tok tp 0) with
  | inl e =>
    rw [hH] at a2
    obtain ⟨C3, l1, l2, l3⟩ := v_fin (X := X) (M := M) (T := T) (N := m + 1) (how := nI v) (m := m) (i := 0) (r := .inl e) a2 (fun s z => nomatch z)
    refine ⟨none, C3, T, rd _ (l1.trans (r67_f gi_11_5 (by rw [l2.2.2.1]; decide))), ?_, rfl, f2.tr (CFl.of l3), Gr.rf T, by omega, by omega, fun _ _ => rfl⟩
    show (C3.1 7, C3.1 8) = (1, nI e)
    rw [l2.2.2.1, l2.2.2.2]
  | inr x =>
    rw [hH] at a2
    have hv := a4 x hH
    obtain ⟨g1, g2, g3⟩ := how_ok (s := (none, tok tp 0)) hb w0 hH
    obtain ⟨C3, T3, b1, b2, b3, b4⟩ := k_lines (X := X) (M := M) (mu := mu) (how := nI v) hN 601 (m + 1) C2 T [] x.2 a2 ls0 h51 hmu (Nat.zero_le _) (by omega) (by omega)
    have b4 : Ad T T3 12 := b4
    show ∃ (q : Option Nat) (C' : CS) (T' : TS), _ ∧ (C'.1 7, C'.1 8) = fltR (bdr (pLines tp 601 [] x.2) fun q => .inr ((x.1, q.1), q.2.1)) ∧ (match rulR (bdr (pLines tp 601 [] x.2) fun q => .inr ((x.1, q.1), q.2.1)) with
      | none => q = none
      | some rs => ∃ p, q = some p ∧ 62 ≤ p ∧ isRl mu T' p rs) ∧ _
    cases hL : pLines tp 601 [] x.2 with
    | inl e =>
      rw [hL] at b2
      have b2 : Sv tp C3 (.inl e) := b2
      refine ⟨none, C3, T3, rd _ (b1.trans (r67_f gi_11_5 (by rw [b2.2.2.1]; decide))), ?_, rfl, f2.tr b3, b4.1, by have := b4.2.1; omega, by have := b4.2.2.1; omega, b4.2.2.2⟩
      show (C3.1 7, C3.1 8) = (1, nI e)
      rw [b2.2.2.1, b2.2.2.2]
    | inr y =>
      rw [hL] at b2
      obtain ⟨b2, b2'⟩ := b2
      have nt := b2.2.2.2
      show ∃ (q : Option Nat) (C' : CS) (T' : TS), _ ∧ (C'.1 7, C'.1 8) = (match y.2.1 with
        | none => (0, -1)
        | some y => (nI y.1, nI y.2)) ∧ (match (match y.2.1 with
          | none => some (x.1, y.1)
          | some _ => none : Option RSV) with
        | none => q = none
        | some rs => ∃ p, q = some p ∧ 62 ≤ p ∧ isRl mu T' p rs) ∧ _
      cases hn : y.2.1 with
      | some z =>
        rw [hn] at nt
        obtain ⟨n1, n2, n3⟩ := nt
        refine ⟨none, C3, T3, rd _ (b1.trans (r67_f gi_11_5 (by rw [n1]; exact ne_nI (b := 0) (by omega) (by omega) (by decide)))), ?_, rfl, f2.tr b3, b4.1, by have := b4.2.1; omega, by have := b4.2.2.1; omega, b4.2.2.2⟩
        show (C3.1 7, C3.1 8) = (nI z.1, nI z.2)
        rw [n1, n2]
      | none =>
        rw [hn] at nt
        obtain ⟨i1, ex, i2, i3, i4⟩ := pls_ok hb hlen 601 [] x.2 y g2 hL hn
        rw [List.nil_append] at i2
        have h12 : y.1.length ≤ 12 := by
          rcases i4 with rfl | i4
          · rw [i2]; decide
          · exact i4
        have t1 := b4.1.1
        obtain ⟨T4, c1, c2, c3, c4, c5, c6⟩ := k_made (X := X) (M := M) (how := v) hN (by omega) (fun z hz => by have := hmu z hz; omega) b2' h12 (fun l hl => i3 l (by rw [← i2]; exact hl)) a3 nt.1
        have t2 := b4.2.1
        have t3 := b4.2.2.1
        refine ⟨some (8 + T3.1), C3, T4, rd _ (b1.trans c1), ?_, ⟨8 + T3.1, rfl, by omega, ?_⟩, f2.tr b3, b4.1.tr c3, by omega, by omega, fun p hp2 => ?_⟩
        · show (C3.1 7, C3.1 8) = (0, -1)
          rw [nt.1, nt.2]
        · rw [← hv]; exact c2
        · rw [c6 p hp2, b4.2.2.2 p (by omega)]
end VRE
