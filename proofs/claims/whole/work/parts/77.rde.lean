/-! the text read: the class's two loops are such loops -/
section RDE
variable {X : XS} {M : MS} {T : TS} {N : Nat} {kE : LH → Option Nat → Int32 → Option LH} {o : Int32}
theorem lp_nz {i : Nat} (h : 1 ≤ i) (h6 : i < 2000) : ¬ nI i = 0 ∧ ¬ nI i ≤ 0 := ⟨ne_nI (b := 0) (by omega) (by omega) (by decide), nI_ge (a := 0) (by omega) (by omega)⟩
theorem lpk_both : LPK N X M T 320 5 (fun A => ngK N kE A (some 11) o) (fun m A i => l_X2_readBoth_2 N kE m A (some 11) o i) := by
  refine ⟨fun m i C h1 h2 => ?_, fun m i C h1 h2 h3 => ?_, fun m i C C1 C2 C3 h1 h2 h3 h4 h5 => ?_, fun m C C2 h1 => ?_⟩
  · show b_X2_readBoth_2 N kE _ _ _ _ _ = _
    unfold b_X2_readBoth_2
    exact if_pos (show nI 600 ≤ nI i from nI_le h1 (by omega))
  · have z := lp_nz h1 (by omega)
    show b_X2_readBoth_2 N kE _ _ _ _ _ = _
    unfold b_X2_readBoth_2
    exact (if_neg (show ¬ nI 600 ≤ nI i from nI_ge h2 (by decide))).trans ((if_neg z.1).trans ((bnd_eq h3).trans (if_pos rfl)))
  · have z := lp_nz h1 (by omega)
    show b_X2_readBoth_2 N kE _ _ _ _ _ = _
    unfold b_X2_readBoth_2
    refine (if_neg (show ¬ nI 600 ≤ nI i from nI_ge h2 (by decide))).trans ((if_neg z.1).trans ((bnd_eq h3).trans ((if_neg i1_ne).trans ((b23_ng h4).trans ?_))))
    unfold b_X2_readBoth_47
    refine (if_neg z.2).trans ((bnd_eq h5).trans ?_)
    rw [nI_1]
  · show b_X2_readBoth_2 N kE _ _ _ _ _ = _
    unfold b_X2_readBoth_2
    refine (if_neg (by decide)).trans ((if_pos rfl).trans ((b23_ng h1).trans ?_))
    unfold b_X2_readBoth_47
    exact (if_pos (by decide)).trans rfl
end RDE
