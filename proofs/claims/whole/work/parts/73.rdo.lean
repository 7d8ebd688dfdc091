/-! the text read: the class's readOne, readBoth, readEither -/
section RDO
variable {X : XS} {C : CS} {M : MS} {T : TS} {tp : List Nat} {L : List STP} {τ : TOK} {N : Nat}
section RDOA
variable {A A1 A2 A3 A4 A5 A6 : LH} {q : Option Nat} {o c d l r i : Int32} {kE : LH → Option Nat → Int32 → Option LH}
theorem ro_o (h0 : isO A q 2 = true) (h1 : f_X2_takes N A q 40 = some (c, A1)) (h2 : ¬ c = 0) (h3 : kE A1 q (o + 1) = some A2) (h4 : f_X2_needs N A2 q 41 = some A3) : f_X2_readOne N kE A q o = some A3 := by
  unfold f_X2_readOne b_X2_readOne
  rw [if_pos h0, bnd_eq h1, if_neg h2, bnd_eq h3, bnd_eq h4]
theorem ro_w (h0 : isO A q 2 = true) (h1 : f_X2_takes N A q 40 = some (c, A1)) (h2 : c = 0) (h3 : f_X2_takes N A1 q 308 = some (d, A2)) (h4 : ¬ d = 0) (h5 : f_X2_addStep A2 q 3 0 0 = some A3) : f_X2_readOne N kE A q o = some A3 := by
  unfold f_X2_readOne b_X2_readOne
  rw [if_pos h0, bnd_eq h1, if_pos h2, bnd_eq h3, if_neg h4, bnd_eq h5]
theorem ro_c (h0 : isO A q 2 = true) (h1 : f_X2_takes N A q 40 = some (c, A1)) (h2 : c = 0) (h3 : f_X2_takes N A1 q 308 = some (d, A2)) (h4 : d = 0) (h5 : f_X2_readTerm N A2 q = some (l, A3)) (h6 : f_X2_choice N A3 q 60 62 = some (i, A4)) (h7 : f_X2_readTerm N A4 q = some (r, A5)) (h8 : f_X2_addStep A5 q i l r = some A6) : f_X2_readOne N kE A q o = some A6 := by
  unfold f_X2_readOne b_X2_readOne
  rw [if_pos h0, bnd_eq h1, if_pos h2, bnd_eq h3, if_pos h4, bnd_eq h5, bnd_eq h6, bnd_eq h7, bnd_eq h8]
end RDOA
theorem d_one {e bd : Nat} {kE : LH → Option Nat → Int32 → Option LH} {o : Int32} (h : Dead tp C e bd) (hbd : bd < 200) : ∃ C', f_X2_readOne N kE (hp X C M T) (some 11) o = some (hp X C' M T) ∧ Dead tp C' e (bd + 1) ∧ CFr C C' := by
  obtain ⟨C1, a1, a2, a3⟩ := d_term (X := X) (M := M) (T := T) (N := N) h
  obtain ⟨C2, b1, b2, b3⟩ := d_choice (X := X) (M := M) (T := T) (N := N) (a := 60) (b := 62) a2 (by decide) (by decide)
  obtain ⟨C3, c1, c2, c3⟩ := d_term (X := X) (M := M) (T := T) (N := N) b2
  obtain ⟨C4, d1, d2, d3⟩ := d_add (X := X) (M := M) (T := T) (d := 0) (l := 0) (r := 0) c2 hbd
  exact ⟨C4, ro_c io_11 (d_takes (k := 40) h (by decide) (by decide)) rfl (d_takes (k := 308) h (by decide) (by decide)) rfl a1 b1 c1 d1, d2, ((a3.tr b3).tr c3).tr d3⟩
/-- the class reads what P reads -/
def KP (tp : List Nat) (X : XS) (M : MS) (T : TS) (bd : Nat) (F : LH → Option LH) (P : TOK → PR) : Prop := (∀ (C : CS) (τ : TOK) (L : List STP), Live tp C τ L → match P τ with
    | .inr p => ∃ C', F (hp X C M T) = some (hp X C' M T) ∧ Live tp C' p.2 (L ++ p.1) ∧ K78 C C'
    | .inl e => ∃ C', F (hp X C M T) = some (hp X C' M T) ∧ Dead tp C' e bd ∧ CFr C C') ∧ ∀ (C : CS) (e b' : Nat), b' + bd < 200 → Dead tp C e b' → ∃ C', F (hp X C M T) = some (hp X C' M T) ∧ Dead tp C' e (b' + bd) ∧ CFr C C'
theorem kp_one {kE : LH → Option Nat → Int32 → Option LH} {E : TOK → PR} {o : Int32} {bd : Nat} (hN : 700 ≤ N) (hb1 : 1 ≤ bd) (hE : KP tp X M T bd (fun A => kE A (some 11) (o + 1)) E) : KP tp X M T bd (fun A => f_X2_readOne N kE A (some 11) o) (pOne tp E) := by
  refine ⟨fun C τ L h => ?_, fun C e b' hb' h => ?_⟩
  case refine_2 =>
    obtain ⟨C', a1, a2, a3⟩ := d_one (X := X) (M := M) (T := T) (N := N) (kE := kE) (o := o) h (by omega)
    exact ⟨C', a1, a2.up (by omega), a3⟩
  unfold pOne
  by_cases h40 : τ.1 = 40
  · rw [if_pos h40]
    obtain ⟨C1, a1, a2, a3⟩ := l_takes (X := X) (M := M) (T := T) (k := 40) hN h h40
    have hh := hE.1 C1 (nx tp τ) L a2
    cases hp' : E (nx tp τ) with
    | inl e =>
      rw [hp'] at hh
      obtain ⟨C2, b1, b2, b3⟩ := hh
      obtain ⟨C3, c1, c2, c3⟩ := d_needs (X := X) (M := M) (T := T) (N := N) (k := 41) b2 (by decide) (by decide)
      exact ⟨C3, ro_o io_11 a1 (by decide) b1 c1, c2, (a3.2.2.tr b3).tr c3⟩
    | inr p =>
      rw [hp'] at hh
      obtain ⟨C2, b1, b2, b3⟩ := hh
      show match (if p.2.1 = 41 then .inr (p.1, nx tp p.2) else .inl p.2.2.2.1 : PR) with
        | .inr p => ∃ C', f_X2_readOne N kE (hp X C M T) (some 11) o = some (hp X C' M T) ∧ Live tp C' p.2 (L ++ p.1) ∧ K78 C C'
        | .inl e => ∃ C', f_X2_readOne N kE (hp X C M T) (some 11) o = some (hp X C' M T) ∧ Dead tp C' e bd ∧ CFr C C'
      by_cases h41 : p.2.1 = 41
      · rw [if_pos h41]
        obtain ⟨C3, c1, c2, c3⟩ := l_needs (X := X) (M := M) (T := T) (k := 41) hN b2 h41
        exact ⟨C3, ro_o io_11 a1 (by decide) b1 c1, c2, (a3.tr b3).tr c3⟩
      · rw [if_neg h41]
        obtain ⟨C3, c1, c2, c3⟩ := l_needs_f (X := X) (M := M) (T := T) (N := N) (k := 41) b2 h41 (by decide)
        exact ⟨C3, ro_o io_11 a1 (by decide) b1 c1, c2, (a3.2.2.tr b3.2.2).tr c3⟩
  · rw [if_neg h40]
    have t1 := l_takes_f (X := X) (M := M) (T := T) (N := N) (k := 40) h h40 (by decide)
    by_cases h308 : τ.1 = 308
    · rw [if_pos h308]
      obtain ⟨C1, a1, a2, a3⟩ := l_takes (X := X) (M := M) (T := T) (k := 308) hN h h308
      have e0 := h.2.2.1.2.2.1 (by omega)
      have e1 := (nx_wf h.2.2.1 h.1.2.2).2
      have e2 := h.2.2.2.2.1
      have e6 := h.2.2.1.2.2.2.2.2 (by omega)
      obtain ⟨C2, b1, b2, b3⟩ := l_add (X := X) (M := M) (T := T) (d := 3) (l := 0) (r := 0) a2 (by decide) (by decide) (by omega)
      exact ⟨C2, ro_w io_11 t1 rfl a1 (by decide) b1, b2, a3.tr b3⟩
    · rw [if_neg h308]
      have t2 := l_takes_f (X := X) (M := M) (T := T) (N := N) (k := 308) h h308 (by decide)
      unfold pCmp
      cases hl : tmOf τ with
      | none =>
        obtain ⟨C1, a1, a2, a3⟩ := l_term_f (X := X) (M := M) (T := T) (N := N) h hl
        obtain ⟨C2, b1, b2, b3⟩ := d_choice (X := X) (M := M) (T := T) (N := N) (a := 60) (b := 62) a2 (by decide) (by decide)
        obtain ⟨C3, c1, c2, c3⟩ := d_term (X := X) (M := M) (T := T) (N := N) b2
        obtain ⟨C4, d1, d2, d3⟩ := d_add (X := X) (M := M) (T := T) (d := 0) (l := 0) (r := 0) c2 (show 0 < 200 by decide)
        exact ⟨C4, ro_c io_11 t1 rfl t2 rfl a1 b1 c1 d1, d2.up hb1, ((a3.tr b3).tr c3).tr d3⟩
      | some l =>
        obtain ⟨C1, a1, a2, a3⟩ := l_term (X := X) (M := M) (T := T) hN h hl
        by_cases hs : 60 ≤ (nx tp τ).1 ∧ (nx tp τ).1 ≤ 62
        · simp only [if_pos hs]
          obtain ⟨C2, b1, b2, b3⟩ := l_choice (X := X) (M := M) (T := T) (a := 60) (b := 62) hN a2 hs.1 hs.2 (by decide)
          cases hr : tmOf (nx tp (nx tp τ)) with
          | none =>
            obtain ⟨C3, c1, c2, c3⟩ := l_term_f (X := X) (M := M) (T := T) (N := N) b2 hr
            obtain ⟨C4, d1, d2, d3⟩ := d_add (X := X) (M := M) (T := T) (d := nI ((nx tp τ).1 - 60)) (l := nI l) (r := 0) c2 (show 0 < 200 by decide)
            exact ⟨C4, ro_c io_11 t1 rfl t2 rfl a1 b1 c1 d1, d2.up hb1, ((a3.2.2.tr b3.2.2).tr c3).tr d3⟩
          | some r =>
            obtain ⟨C3, c1, c2, c3⟩ := l_term (X := X) (M := M) (T := T) hN b2 hr
            have v1 := (tm_lt h.2.2.1 hl)
            have v2 := (tm_lt b2.2.2.1 hr)
            have e0 := h.2.2.1.2.2.1 v1.2
            have e1 := (nx_wf h.2.2.1 h.1.2.2).2
            have e2 := h.2.2.2.2.1
            have e3 := (nx_wf a2.2.2.1 h.1.2.2).2
            have e4 := (nx_wf b2.2.2.1 h.1.2.2).2
            have e5 := a2.2.2.1.2.2.1 (by omega)
            have e6 := b2.2.2.1.2.2.1 v2.2
            obtain ⟨C4, d1, d2, d3⟩ := l_add (X := X) (M := M) (T := T) (d := (nx tp τ).1 - 60) (l := l) (r := r) c2 (by omega) (by omega) (by omega)
            exact ⟨C4, ro_c io_11 t1 rfl t2 rfl a1 b1 c1 d1, d2, ((a3.tr b3).tr c3).tr d3⟩
        · simp only [if_neg hs]
          obtain ⟨C2, b1, b2, b3⟩ := l_choice_f (X := X) (M := M) (T := T) (N := N) (a := 60) (b := 62) a2 (by omega) (by decide) (by decide)
          obtain ⟨C3, c1, c2, c3⟩ := d_term (X := X) (M := M) (T := T) (N := N) b2
          obtain ⟨C4, d1, d2, d3⟩ := d_add (X := X) (M := M) (T := T) (d := 0) (l := nI l) (r := 0) c2 (show 0 < 200 by decide)
          exact ⟨C4, ro_c io_11 t1 rfl t2 rfl a1 b1 c1 d1, d2.up hb1, ((a3.2.2.tr b3).tr c3).tr d3⟩
end RDO
