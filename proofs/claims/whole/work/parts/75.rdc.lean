/-! the text read: the class's loops -/
section RDC
variable {X : XS} {C : CS} {M : MS} {T : TS} {tp : List Nat} {L : List STP} {τ : TOK} {N : Nat}
theorem le_ex (l : List STP) : l.length ≤ (l.flatMap expS).length := by
  induction l with
  | nil => exact Nat.le_refl _
  | cons x l ih =>
    rw [List.flatMap_cons, List.length_append, List.length_cons]
    have := (ex_len x).1
    omega
/-- a loop that, from its second turn on, takes the word k, reads a part, adds the deed d -/
def LPK (N : Nat) (X : XS) (M : MS) (T : TS) (k d : Nat) (G : LH → Option LH) (l : Nat → LH → Int32 → Option LH) : Prop :=
  (∀ (m i : Nat) (C : CS), 600 ≤ i → i < 2000 → l (m + 1) (hp X C M T) (nI i) = some (hp X C M T)) ∧
  (∀ (m i : Nat) (C : CS), 1 ≤ i → i < 600 → f_X2_takes N (hp X C M T) (some 11) (nI k) = some (0, hp X C M T) → l (m + 1) (hp X C M T) (nI i) = some (hp X C M T)) ∧
  (∀ (m i : Nat) (C C1 C2 C3 : CS), 1 ≤ i → i < 600 → f_X2_takes N (hp X C M T) (some 11) (nI k) = some (1, hp X C1 M T) → G (hp X C1 M T) = some (hp X C2 M T) → f_X2_addStep (hp X C2 M T) (some 11) (nI d) 0 0 = some (hp X C3 M T) → l (m + 1) (hp X C M T) (nI i) = l m (hp X C3 M T) (nI (i + 1))) ∧
  (∀ (m : Nat) (C C2 : CS), G (hp X C M T) = some (hp X C2 M T) → l (m + 1) (hp X C M T) 0 = l m (hp X C2 M T) 1)
theorem lp_dead {k d : Nat} {G : LH → Option LH} {l : Nat → LH → Int32 → Option LH} (hl : LPK N X M T k d G l) (hk : k ≠ 2) (hk4 : k < 400) {e m i bd : Nat} (h : Dead tp C e bd) (hi : 1 ≤ i) (hi2 : i < 2000) : l (m + 1) (hp X C M T) (nI i) = some (hp X C M T) := by
  by_cases h6 : i < 600
  · exact hl.2.1 m i C hi h6 (d_takes h hk hk4)
  · exact hl.1 m i C (by omega) hi2
theorem lp_more {k d m0' bd : Nat} {G : LH → Option LH} {P : TOK → PR} {l : Nat → LH → Int32 → Option LH} (hN : 700 ≤ N) (hb : ∀ x ∈ tp, x < 256) (hl : LPK N X M T k d G l) (hk : 300 ≤ k) (hk4 : k < 400) (hO : OKP tp m0' P) (hb2 : bd < 100) (hG : KP tp X M T bd G P) : ∀ (n m i : Nat) (C : CS) (τ : TOK) (L : List STP), Live tp C τ L → 1 ≤ i → i ≤ τ.2.2.1 → tp.length < τ.2.2.2 + n → n < m → match pMore tp k d P n τ with
    | .inr p => ∃ C', l m (hp X C M T) (nI i) = some (hp X C' M T) ∧ Live tp C' p.2 (L ++ p.1) ∧ K78 C C'
    | .inl e => ∃ C', l m (hp X C M T) (nI i) = some (hp X C' M T) ∧ Dead tp C' e (bd + 1) ∧ CFr C C' := by
  intro n
  induction n with
  | zero =>
    intro m i C τ L h _ _ hn _
    have := h.2.2.1.2.1
    omega
  | succ n ih =>
    intro m i C τ L h hi hip hn hm
    obtain ⟨m', rfl⟩ : ∃ m', m = m' + 1 := ⟨m - 1, by omega⟩
    obtain ⟨m2, rfl⟩ : ∃ m2, m' = m2 + 1 := ⟨m' - 1, by omega⟩
    have w := h.2.2.1
    have hlen := h.1.2.1
    unfold pMore
    by_cases hk' : τ.1 = k
    · rw [if_pos hk']
      have e0 := w.2.2.1 (by omega)
      have hi6 : i < 600 := by have := w.2.1; omega
      obtain ⟨C1, a1, a2, a3⟩ := l_takes (X := X) (M := M) (T := T) (k := k) hN h hk'
      have hh := hG.1 C1 (nx tp τ) L a2
      have e1 := (nx_wf w hb).2
      have e2 := h.2.2.2.2.1
      cases hp' : P (nx tp τ) with
      | inl e =>
        rw [hp'] at hh
        obtain ⟨C2, b1, b2, b3⟩ := hh
        obtain ⟨C3, c1, c2, c3⟩ := d_add (X := X) (M := M) (T := T) (d := nI d) (l := 0) (r := 0) b2 (by omega)
        exact ⟨C3, (hl.2.2.1 (m2 + 1) i C C1 C2 C3 hi hi6 a1 b1 c1).trans (lp_dead hl (by omega) hk4 c2 (by omega) (by omega)), c2, (a3.2.2.tr b3).tr c3⟩
      | inr p =>
        rw [hp'] at hh
        obtain ⟨C2, b1, b2, b3⟩ := hh
        obtain ⟨g1, g2, g3, g4, g5, g6⟩ := hO _ p.1 p.2 a2.2.2.1 hp'
        have e3 := le_ex p.1
        have e4 : 1 ≤ p.1.length := by
          cases hq : p.1 with
          | nil => exact absurd hq g4.1
          | cons _ _ => simp
        have e5 := g1.1
        have e6 := w.2.2.2.2.2 (by omega)
        have e7 := g4.2
        obtain ⟨C3, c1, c2, c3⟩ := l_add (X := X) (M := M) (T := T) (d := d) (l := 0) (r := 0) b2 (by decide) (by decide) (by rw [List.length_append]; omega)
        have hr := ih (m2 + 1) (i + 1) C3 p.2 (L ++ p.1 ++ [(d, 0, 0)]) c2 (by omega) (by omega) (by omega) (by omega)
        have st := hl.2.2.1 (m2 + 1) i C C1 C2 C3 hi hi6 a1 b1 c1
        show match (match pMore tp k d P n p.2 with
          | .inl e => .inl e
          | .inr p2 => .inr (p.1 ++ (d, 0, 0) :: p2.1, p2.2) : PR) with
          | .inr p => ∃ C', l (m2 + 1 + 1) (hp X C M T) (nI i) = some (hp X C' M T) ∧ Live tp C' p.2 (L ++ p.1) ∧ K78 C C'
          | .inl e => ∃ C', l (m2 + 1 + 1) (hp X C M T) (nI i) = some (hp X C' M T) ∧ Dead tp C' e (bd + 1) ∧ CFr C C'
        cases hq : pMore tp k d P n p.2 with
        | inl e =>
          rw [hq] at hr
          obtain ⟨C4, d1, d2, d3⟩ := hr
          exact ⟨C4, st.trans d1, d2, ((a3.tr b3).tr c3).2.2.tr d3⟩
        | inr p2 =>
          rw [hq] at hr
          obtain ⟨C4, d1, d2, d3⟩ := hr
          refine ⟨C4, st.trans d1, ?_, ((a3.tr b3).tr c3).tr d3⟩
          rw [List.append_assoc, List.append_assoc] at d2
          exact d2
    · rw [if_neg hk']
      refine ⟨C, ?_, by rw [List.append_nil]; exact h, K78.rf⟩
      by_cases h6 : i < 600
      · exact hl.2.1 _ i C hi h6 (l_takes_f h hk' hk4)
      · have := w.1; have := w.2.1
        exact hl.1 _ i C (by omega) (by omega)
end RDC
