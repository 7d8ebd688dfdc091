/-! the text read: the class's readOne, readBoth, readEither -/
section RDO
variable {X : XS} {C : CS} {M : MS} {T : TS} {tp : List Nat} {L : List STP} {τ : TOK} {N : Nat}
section RDOA
variable {A A1 A2 A3 A4 A5 A6 : LH} {q : Option Nat} {o c d l r i : Int32} {kE : LH → Option Nat → Int32 → Option LH}
theorem ro_o (h0 : isO A q 2 = true) (h1 : f_X2_takes N A q 40 = some (c, A1)) (h2 : ¬ c = 0) (h3 : kE A1 q (o + 1) = some A2) (h4 : f_X2_needs N A2 q 41 = some A3) : f_X2_readOne N kE A q o = some A3 := by
  unfold f_X2_readOne b_X2_readOne
  rw [if_pos h0, bnd_eq h1, if_neg h2, bnd_eq h3, bnd_eq h4]
theorem ro_w (h0 : isO A q 2 = true) (h1 : f_X2_takes N A q 40 = some (c, A1)) (h2 : c = 0) (h3 : f_X2_takes N A1 q 308 = some (d, A2)) (h4 : ¬ d = 0) (h5 : f_X2_addStep A2 q 3 0 0 = some A3) : f_X2_readOne N kE A q o = some A3 := by
  unfold f_X2_readOne b_X2_readOne
  rw [if_pos h0, bnd_eq h1, if_pos h2, bnd_eq h3, if_neg h4, bnd_eq h5]
theorem ro_c (h0 : isO A q 2 = true) (h1 : f_X2_takes N A q 40 = some (c, A1)) (h2 : c = 0) (h3 : f_X2_takes N A1 q 308 = some (d, A2)) (h4 : d = 0) (h5 : f_X2_readTerm N A2 q = some (l, A3)) (h6 : f_X2_choice N A3 q 60 62 = some (i, A4)) (h7 : f_X2_readTerm N A4 q = some (r, A5)) (h8 : f_X2_addStep A5 q i l r = some A6) : f_X2_readOne N kE A q o = some A6 := by
  unfold f_X2_readOne b_X2_readOne
  rw [if_pos h0, bnd_eq h1, if_pos h2, bnd_eq h3, if_pos h4, bnd_eq h5, bnd_eq h6, bnd_eq h7, bnd_eq h8]
end RDOA
theorem d_one {e : Nat} {kE : LH → Option Nat → Int32 → Option LH} {o : Int32} (h : Dead tp C e) : ∃ C', f_X2_readOne N kE (hp X C M T) (some 11) o = some (hp X C' M T) ∧ Dead tp C' e ∧ CFr C C' := by
  obtain ⟨C1, a1, a2, a3⟩ := d_term (X := X) (M := M) (T := T) (N := N) h
  obtain ⟨C2, b1, b2, b3⟩ := d_choice (X := X) (M := M) (T := T) (N := N) (a := 60) (b := 62) a2 (by decide) (by decide)
  obtain ⟨C3, c1, c2, c3⟩ := d_term (X := X) (M := M) (T := T) (N := N) b2
  obtain ⟨C4, d1, d2, d3⟩ := d_add (X := X) (M := M) (T := T) (d := 0) (l := 0) (r := 0) c2
  exact ⟨C4, ro_c io_11 (d_takes (k := 40) h (by decide) (by decide)) rfl (d_takes (k := 308) h (by decide) (by decide)) rfl a1 b1 c1 d1, d2, ((a3.tr b3).tr c3).tr d3⟩
end RDO
