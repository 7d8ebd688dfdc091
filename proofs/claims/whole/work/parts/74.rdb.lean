/-! the text read: the class's readBoth, readEither -/
section RDB
variable {X : XS} {C : CS} {M : MS} {T : TS} {tp : List Nat} {L : List STP} {τ : TOK} {N : Nat}
/-- a part, with its 'not' -/
def ngK (N : Nat) (kE : LH → Option Nat → Int32 → Option LH) (A : LH) (q : Option Nat) (o : Int32) : Option LH := (f_X2_takes N A q (321 : Int32)).bind fun p3 => (f_X2_readOne N kE p3.2 q o).bind fun p6 => if p3.1 = 0 then some p6 else f_X2_addStep p6 q (4 : Int32) (0 : Int32) (0 : Int32)
theorem b23_ng {kE : LH → Option Nat → Int32 → Option LH} {k2 : LH → Option Nat → Int32 → Int32 → Option LH} {A A1 : LH} {q : Option Nat} {o i : Int32} (h : ngK N kE A q o = some A1) : b_X2_readBoth_23 N kE k2 A q o i = b_X2_readBoth_47 N kE k2 A1 q o i := by
  unfold ngK at h
  unfold b_X2_readBoth_23
  cases h1 : f_X2_takes N A q 321 with
  | none => rw [h1] at h; cases h
  | some p3 =>
    rw [h1, Option.bind_some] at h
    rw [Option.bind_some]
    cases h2 : f_X2_readOne N kE p3.2 q o with
    | none => rw [h2] at h; cases h
    | some p6 =>
      rw [h2, Option.bind_some] at h
      rw [Option.bind_some]
      by_cases h3 : p3.1 = 0
      · rw [if_pos h3] at h ⊢
        cases h; rfl
      · rw [if_neg h3] at h ⊢
        rw [h, Option.bind_some]
theorem kp_neg {kE : LH → Option Nat → Int32 → Option LH} {E : TOK → PR} {o : Int32} {m bd : Nat} (hN : 700 ≤ N) (hb1 : 1 ≤ bd) (hb2 : bd < 100) (hb : ∀ x ∈ tp, x < 256) (hm : 1 ≤ m) (hO : OKP tp m E) (hE : KP tp X M T bd (fun A => kE A (some 11) (o + 1)) E) : KP tp X M T (bd + 1) (fun A => ngK N kE A (some 11) o) (pNeg tp E) := by
  have k1 := kp_one (N := N) hN hb1 hE
  refine ⟨fun C τ L h => ?_, fun C e b' hb' h => ?_⟩
  · unfold pNeg
    by_cases hk : τ.1 = 321
    · rw [if_pos hk]
      obtain ⟨C1, a1, a2, a3⟩ := l_takes (X := X) (M := M) (T := T) (k := 321) hN h hk
      have hh := k1.1 C1 (nx tp τ) L a2
      cases hp' : pOne tp E (nx tp τ) with
      | inl e =>
        rw [hp'] at hh
        obtain ⟨C2, b1, b2, b3⟩ := hh
        obtain ⟨C3, c1, c2, c3⟩ := d_add (X := X) (M := M) (T := T) (d := 4) (l := 0) (r := 0) b2 (by omega)
        refine ⟨C3, ?_, c2, (a3.2.2.tr b3).tr c3⟩
        show ngK N kE _ _ _ = _
        unfold ngK
        exact (bnd_eq a1).trans ((bnd_eq b1).trans ((if_neg i1_ne).trans c1))
      | inr p =>
        rw [hp'] at hh
        obtain ⟨C2, b1, b2, b3⟩ := hh
        obtain ⟨g1, g2, g3, g4, g5, g6⟩ := ok_one hb hm hO _ p.1 p.2 a2.2.2.1 hp'
        have e0 := h.2.2.1.2.2.1 (by omega)
        have e1 := (nx_wf h.2.2.1 hb).2
        have e2 := h.2.2.2.2.1
        have e6 := h.2.2.1.2.2.2.2.2 (by omega)
        have e7 := g4.2
        have e3 : p.1.length ≤ (p.1.flatMap expS).length := by
          have : ∀ l : List STP, l.length ≤ (l.flatMap expS).length := by
            intro l
            induction l with
            | nil => exact Nat.le_refl _
            | cons x l ih =>
              rw [List.flatMap_cons, List.length_append, List.length_cons]
              have := (ex_len x).1
              omega
          exact this _
        obtain ⟨C3, c1, c2, c3⟩ := l_add (X := X) (M := M) (T := T) (d := 4) (l := 0) (r := 0) b2 (by decide) (by decide) (by rw [List.length_append]; omega)
        rw [List.append_assoc] at c2
        refine ⟨C3, ?_, c2, (a3.tr b3).tr c3⟩
        show ngK N kE _ _ _ = _
        unfold ngK
        exact (bnd_eq a1).trans ((bnd_eq b1).trans ((if_neg i1_ne).trans c1))
    · rw [if_neg hk]
      have t1 := l_takes_f (X := X) (M := M) (T := T) (N := N) (k := 321) h hk (by decide)
      have hh := k1.1 C τ L h
      cases hp' : pOne tp E τ with
      | inl e =>
        rw [hp'] at hh
        obtain ⟨C2, b1, b2, b3⟩ := hh
        refine ⟨C2, ?_, b2.up (by omega), b3⟩
        show ngK N kE _ _ _ = _
        unfold ngK
        exact (bnd_eq t1).trans ((bnd_eq b1).trans (if_pos rfl))
      | inr p =>
        rw [hp'] at hh
        obtain ⟨C2, b1, b2, b3⟩ := hh
        refine ⟨C2, ?_, b2, b3⟩
        show ngK N kE _ _ _ = _
        unfold ngK
        exact (bnd_eq t1).trans ((bnd_eq b1).trans (if_pos rfl))
  · obtain ⟨C2, b1, b2, b3⟩ := k1.2 C e b' (by omega) h
    refine ⟨C2, ?_, b2.up (by omega), b3⟩
    show ngK N kE _ _ _ = _
    unfold ngK
    exact (bnd_eq (d_takes (k := 321) h (by decide) (by decide))).trans ((bnd_eq b1).trans (if_pos rfl))
end RDB
