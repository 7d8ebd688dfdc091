/-! the text read: the class's readBoth, readEither -/
section RDD
variable {X : XS} {C : CS} {M : MS} {T : TS} {tp : List Nat} {L : List STP} {τ : TOK} {N : Nat}
theorem kp_seq {k d m0' bd : Nat} {G : LH → Option LH} {P : TOK → PR} {l : Nat → LH → Int32 → Option LH} (hN : 700 ≤ N) (hb : ∀ x ∈ tp, x < 256) (hl : LPK N X M T k d G l) (hk : 300 ≤ k) (hk4 : k < 400) (hO : OKP tp m0' P) (hb2 : bd < 100) (hG : KP tp X M T bd G P) : KP tp X M T (bd + 1) (fun A => l N A 0) (pSeq tp k d P) := by
  obtain ⟨m, rfl⟩ : ∃ m, N = m + 1 := ⟨N - 1, by omega⟩
  obtain ⟨m2, rfl⟩ : ∃ m2, m = m2 + 1 := ⟨m - 1, by omega⟩
  refine ⟨fun C τ L h => ?_, fun C e b' hb' h => ?_⟩
  · have hh := hG.1 C τ L h
    unfold pSeq
    cases hp' : P τ with
    | inl e =>
      rw [hp'] at hh
      obtain ⟨C2, b1, b2, b3⟩ := hh
      exact ⟨C2, (hl.2.2.2 (m2 + 1) C C2 b1).trans (lp_dead (i := 1) hl (by omega) hk4 b2 (by decide) (by decide)), b2.up (by omega), b3⟩
    | inr p =>
      rw [hp'] at hh
      obtain ⟨C2, b1, b2, b3⟩ := hh
      obtain ⟨g1, g2, g3, g4, g5, g6⟩ := hO _ p.1 p.2 h.2.2.1 hp'
      have e3 := le_ex p.1
      have e4 : 1 ≤ p.1.length := by
        cases hq : p.1 with
        | nil => exact absurd hq g4.1
        | cons _ _ => simp
      have hlen := h.1.2.1
      have hr := lp_more hN hb hl hk hk4 hO hb2 hG 601 (m2 + 1) 1 C2 p.2 (L ++ p.1) b2 (by decide) (by omega) (by omega) (by omega)
      have st := hl.2.2.2 (m2 + 1) C C2 b1
      show match (match pMore tp k d P 601 p.2 with
        | .inl e => .inl e
        | .inr p2 => .inr (p.1 ++ p2.1, p2.2) : PR) with
        | .inr p => ∃ C', l (m2 + 1 + 1) (hp X C M T) 0 = some (hp X C' M T) ∧ Live tp C' p.2 (L ++ p.1) ∧ K78 C C'
        | .inl e => ∃ C', l (m2 + 1 + 1) (hp X C M T) 0 = some (hp X C' M T) ∧ Dead tp C' e (bd + 1) ∧ CFr C C'
      cases hq : pMore tp k d P 601 p.2 with
      | inl e =>
        rw [hq] at hr
        obtain ⟨C4, d1, d2, d3⟩ := hr
        exact ⟨C4, st.trans d1, d2, b3.2.2.tr d3⟩
      | inr p2 =>
        rw [hq] at hr
        obtain ⟨C4, d1, d2, d3⟩ := hr
        refine ⟨C4, st.trans d1, ?_, b3.tr d3⟩
        rw [List.append_assoc] at d2
        exact d2
  · obtain ⟨C2, b1, b2, b3⟩ := hG.2 C e b' (by omega) h
    exact ⟨C2, (hl.2.2.2 (m2 + 1) C C2 b1).trans (lp_dead (i := 1) hl (by omega) hk4 b2 (by decide) (by decide)), b2.up (by omega), b3⟩
end RDD
