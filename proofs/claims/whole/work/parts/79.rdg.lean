/-! the text read: the class reads a 'when' as pE does -/
section RDG
variable {X : XS} {M : MS} {T : TS} {N : Nat} {kE : LH → Option Nat → Int32 → Option LH} {o : Int32} {tp : List Nat} {E : TOK → PR} {m bd : Nat}
theorem kp_cg {F G : LH → Option LH} {P : TOK → PR} (h : KP tp X M T bd F P) (e : ∀ C, G (hp X C M T) = F (hp X C M T)) : KP tp X M T bd G P := by
  refine ⟨fun C τ L hl => ?_, fun C e' b' hb' hd => ?_⟩
  · have := h.1 C τ L hl
    cases hp' : P τ with
    | inl e' => rw [hp'] at this; obtain ⟨C', a, b⟩ := this; exact ⟨C', (e C).trans a, b⟩
    | inr p => rw [hp'] at this; obtain ⟨C', a, b⟩ := this; exact ⟨C', (e C).trans a, b⟩
  · obtain ⟨C', a, b⟩ := h.2 C e' b' hb' hd
    exact ⟨C', (e C).trans a, b⟩
theorem kp_both (hN : 700 ≤ N) (hb : ∀ x ∈ tp, x < 256) (hm : 1 ≤ m) (hb1 : 1 ≤ bd) (hb2 : bd < 90) (hO : OKP tp m E) (hE : KP tp X M T bd (fun A => kE A (some 11) (o + 1)) E) : KP tp X M T (bd + 1 + 1) (fun A => f_X2_readBoth N kE A (some 11) o) (pBoth tp E) := by
  refine kp_cg (kp_seq (k := 320) (d := 5) hN hb lpk_both (by decide) (by decide) (ok_neg hb hm hO) (by omega) (kp_neg hN hb1 (by omega) hb hm hO hE)) (fun C => ?_)
  show f_X2_readBoth N kE _ _ _ = l_X2_readBoth_2 N kE N _ _ _ _
  unfold f_X2_readBoth b_X2_readBoth
  exact if_pos io_11
theorem kp_eith (hN : 700 ≤ N) (hb : ∀ x ∈ tp, x < 256) (hm : 1 ≤ m) (hb1 : 1 ≤ bd) (hb2 : bd < 90) (hO : OKP tp m E) (hE : KP tp X M T bd (fun A => kE A (some 11) (o + 1)) E) (h6 : o ≤ 6) : KP tp X M T (bd + 1 + 1 + 1) (fun A => f_X2_readEither N kE A (some 11) o) (pEith tp E) := by
  refine kp_cg (kp_seq (k := 319) (d := 6) hN hb lpk_either (by decide) (by decide) (ok_seq (k := 320) (d := 5) hb (by decide) (by decide) (by decide) (ok_neg hb hm hO)) (by omega) (kp_both hN hb hm hb1 hb2 hO hE)) (fun C => ?_)
  show f_X2_readEither N kE _ _ _ = l_X2_readEither_13 N kE N _ _ _ _
  unfold f_X2_readEither b_X2_readEither
  exact (if_pos io_11).trans (if_pos h6)
theorem kp_E (hN : 700 ≤ N) (hb : ∀ x ∈ tp, x < 256) : ∀ (j n : Nat), j ≤ 6 → j < n → KP tp X M T (3 * j + 1) (fun A => F_X2_readEither N n A (some 11) (nI (7 - j))) (pE tp j) := by
  intro j
  induction j with
  | zero =>
    intro n _ hn
    obtain ⟨n', rfl⟩ : ∃ n', n = n' + 1 := ⟨n - 1, by omega⟩
    have hf : ∀ (C C' : CS), f_X2_refuse (hp X C M T) (some 11) = some (hp X C' M T) → F_X2_readEither N (n' + 1) (hp X C M T) (some 11) (nI (7 - 0)) = some (hp X C' M T) := fun C C' h => by
      show f_X2_readEither N _ _ _ _ = _
      unfold f_X2_readEither b_X2_readEither
      exact (if_pos io_11).trans ((if_neg (by decide)).trans (bnd_eq h))
    refine ⟨fun C τ L h => ?_, fun C e b' hb' h => ?_⟩
    · obtain ⟨C', a, b, c⟩ := l_refuse (X := X) (M := M) (T := T) h
      exact ⟨C', hf C C' a, b, c⟩
    · obtain ⟨C', a, b, c⟩ := d_refuse (X := X) (M := M) (T := T) h
      exact ⟨C', hf C C' a, b.up (by omega), c⟩
  | succ j ih =>
    intro n hj hn
    obtain ⟨n', rfl⟩ : ∃ n', n = n' + 1 := ⟨n - 1, by omega⟩
    have h := ih n' (by omega) (by omega)
    rw [show 7 - j = 7 - (j + 1) + 1 by omega, ← nI_1] at h
    exact kp_eith (bd := 3 * j + 1) hN hb (by omega) (by omega) (by omega) (ok_E hb j) h (show nI (7 - (j + 1)) ≤ nI 6 from nI_le (by omega) (by decide))
end RDG
