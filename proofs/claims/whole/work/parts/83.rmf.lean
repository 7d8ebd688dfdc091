/-! the text read: the reference's any -/
section RMF
variable {X : XS} {C : CS} {M : MS} {T : TS} {tp : List Nat} {τ : TOK} {N : Nat} {D : List (Nat × Nat)} {kE : LH → Option Nat → Option (Int32 × LH)} {E : TOK → PR} {o s m : Nat}
theorem MLv.m28 {v : Int32} (h : MLv tp M τ D) : MLv tp (m0 M 28 v) τ D := by
  obtain ⟨h1, h2, h3, h4, h5⟩ := h
  refine ⟨⟨?_, h1.2⟩, ⟨?_, ?_, ?_⟩, h3, ?_, h5⟩
  · rw [m0_n (by decide)]; exact h1.1
  · rw [m0_n (by decide), m0_n (by decide)]; exact h2.1
  · rw [m0_n (by decide)]; exact h2.2.1
  · rw [m0_n (by decide)]; exact h2.2.2
  · rw [m0_n (by decide)]; exact h4
theorem MDd.m28 {e : Nat} {v : Int32} (h : MDd tp M e s) : MDd tp (m0 M 28 v) e s := by
  obtain ⟨h1, h2, h3, n, h4, h5⟩ := h
  refine ⟨⟨?_, h1.2⟩, ?_, ?_, n, ?_, h5⟩
  · rw [m0_n (by decide)]; exact h1.1
  · rw [m0_n (by decide)]; exact h2
  · rw [m0_n (by decide)]; exact h3
  · rw [m0_n (by decide)]; exact h4
theorem mfr_28 {M' : MS} {v : Int32} (h : MFr (m0 M 28 v) M') (ho : M.1 28 = nI o) : MFr M (m0 M' 28 (nI o)) := by
  refine ⟨fun j hj => ?_, h.2⟩
  by_cases e : j = 28
  · rw [e, m0_s, ho]
  · rw [m0_n e, h.1 j hj, m0_n e]
theorem MKp.m28 {M' : MS} {v : Int32} (h : MKp (m0 M 28 v) M') (ho : M.1 28 = nI o) : MKp M (m0 M' 28 (nI o)) :=
  ⟨by rw [m0_n (by decide), h.1, m0_n (by decide)], by rw [m0_n (by decide), h.2.1, m0_n (by decide)], mfr_28 h.2.2 ho⟩
theorem an_62 {v : Int32} (h : M.1 28 = nI (o + 1)) : b_X11_any_62 N kE (hp X C M T) (some 35) v = some (v, hp X C (m0 M 28 (nI o)) T) := by
  unfold b_X11_any_62
  refine (bnd_eq (gi_35_28.trans (congrArg some h))).trans ?_
  have e : nI (o + 1) - (1 : Int32) = nI o := by rw [← nI_1]; exact Int32.add_sub_cancel _ _
  rw [e]
  exact bnd_eq (pi_35_28 _)
theorem rp_any (hN : 700 ≤ N) (hb : ∀ x ∈ tp, x < 256) (hs : 1 ≤ s) (hs9 : s ≤ 90) (hm : 1 ≤ m) (hO : OKP tp m E) (ho6 : o < 6) (hE : RP tp X C T (o + 1) s (fun A => kE A (some 35)) E) : RP tp X C T o (s + 1 + 1) (fun A => f_X11_any N kE A (some 35)) (pEith tp E) := by
  intro M τ D h hD ho
  have hb' := rp_both hN hb hs (by omega) hm hO hE
  have hh := lr_seq (i := 19) (d := 6) hN hb (by decide) rfl W_19 lpr_any (by decide) (by decide) (show OKP tp (m + 1) (pBoth tp E) from ok_seq (k := 320) (d := 5) hb (by decide) (by decide) (by decide) (ok_neg hb hm hO)) (by omega) hb' (m0 M 28 (nI (o + 1))) τ D h.m28 hD m0_s
  have un : ∀ p, (f_X11_both N kE (hp X C (m0 M 28 (nI (o + 1))) T) (some 35)).bind (fun r => l_X11_any_29 N kE N r.2 (some 35) r.1) = p → f_X11_any N kE (hp X C M T) (some 35) = zc p := fun p e => by
    unfold f_X11_any b_X11_any
    rw [if_pos io_35, bnd_eq (gi_35_28.trans (congrArg some ho)), if_neg (show ¬ nI o = (6 : Int32) from ne_nI (b := 6) (by omega) (by omega) (by decide)), bnd_eq (gi_35_28.trans (congrArg some ho)), nI_1, bnd_eq (pi_35_28 _), e]
  unfold pEith
  cases hp' : pSeq tp 319 6 (pBoth tp E) τ with
  | inl e =>
    rw [show 300 + 19 = 319 from rfl, hp'] at hh
    obtain ⟨M', k1, k2, k3⟩ := hh
    have h28 : M'.1 28 = nI (o + 1) := (k3.1 28 (by decide)).trans m0_s
    exact ⟨m0 M' 28 (nI o), (un _ k1).trans ((congrArg zc (an_62 h28)).trans (zc_0 _)), k2.m28, mfr_28 k3 ho⟩
  | inr p =>
    rw [show 300 + 19 = 319 from rfl, hp'] at hh
    obtain ⟨M', k1, k2, k3⟩ := hh
    have h28 : M'.1 28 = nI (o + 1) := (k3.2.2.1 28 (by decide)).trans m0_s
    exact ⟨m0 M' 28 (nI o), (un _ k1).trans ((congrArg zc (an_62 h28)).trans (zc_1 _)), k2.m28, k3.m28 ho⟩
theorem rp_E (hN : 700 ≤ N) (hb : ∀ x ∈ tp, x < 256) : ∀ (j n : Nat), j ≤ 6 → j < n → RP tp X C T (6 - j) (2 * j + 1) (fun A => F_X11_any N n A (some 35)) (pE tp j) := by
  intro j
  induction j with
  | zero =>
    intro n _ hn M τ D h hD ho
    obtain ⟨n', rfl⟩ : ∃ n', n = n' + 1 := ⟨n - 1, by omega⟩
    have hl := h.le
    obtain ⟨M', k1, k2, k3⟩ := r_wrong (X := X) (C := C) (T := T) (s := 1) h (by omega)
    refine ⟨M', ?_, k2, k3⟩
    show f_X11_any N _ _ _ = _
    unfold f_X11_any b_X11_any
    rw [if_pos io_35, bnd_eq (gi_35_28.trans (congrArg some ho)), if_pos (show nI (6 - 0) = 6 from rfl), bnd_eq k1, zc_0]
  | succ j ih =>
    intro n hj hn
    obtain ⟨n', rfl⟩ : ∃ n', n = n' + 1 := ⟨n - 1, by omega⟩
    have h := ih n' (by omega) (by omega)
    rw [show 6 - j = 6 - (j + 1) + 1 by omega] at h
    exact rp_any (s := 2 * j + 1) hN hb (by omega) (by omega) (by omega) (ok_E hb j) (by omega) h
end RMF
