/-! the text read: the class's readEither -/
section RDF
variable {X : XS} {M : MS} {T : TS} {N : Nat} {kE : LH → Option Nat → Int32 → Option LH} {o : Int32} {tp : List Nat}
theorem lpk_either : LPK N X M T 319 6 (fun A => f_X2_readBoth N kE A (some 11) o) (fun m A i => l_X2_readEither_13 N kE m A (some 11) o i) := by
  refine ⟨fun m i C h1 h2 => ?_, fun m i C h1 h2 h3 => ?_, fun m i C C1 C2 C3 h1 h2 h3 h4 h5 => ?_, fun m C C2 h1 => ?_⟩
  · show b_X2_readEither_13 N kE _ _ _ _ _ = _
    unfold b_X2_readEither_13
    exact if_pos (show nI 600 ≤ nI i from nI_le h1 (by omega))
  · have z := lp_nz h1 (by omega)
    show b_X2_readEither_13 N kE _ _ _ _ _ = _
    unfold b_X2_readEither_13
    exact (if_neg (show ¬ nI 600 ≤ nI i from nI_ge h2 (by decide))).trans ((if_neg z.1).trans ((bnd_eq h3).trans (if_pos rfl)))
  · have z := lp_nz h1 (by omega)
    show b_X2_readEither_13 N kE _ _ _ _ _ = _
    unfold b_X2_readEither_13
    refine (if_neg (show ¬ nI 600 ≤ nI i from nI_ge h2 (by decide))).trans ((if_neg z.1).trans ((bnd_eq h3).trans ((if_neg i1_ne).trans ?_)))
    unfold b_X2_readEither_34
    refine (bnd_eq h4).trans ((if_neg z.2).trans ((bnd_eq h5).trans ?_))
    rw [nI_1]
  · show b_X2_readEither_13 N kE _ _ _ _ _ = _
    unfold b_X2_readEither_13
    refine (if_neg (by decide)).trans ((if_pos rfl).trans ?_)
    unfold b_X2_readEither_34
    exact (bnd_eq h1).trans ((if_pos (by decide)).trans rfl)
end RDF
