/-! the text read: the class, well or not -/
section RDL
variable {X : XS} {C : CS} {M : MS} {T : TS} {tp : List Nat} {L : List STP} {τ : TOK} {N : Nat}
/-- what the reading leaves alone -/
def CFr (C C' : CS) : Prop := (∀ j, j = 0 ∨ j = 5 ∨ 8 < j → C'.1 j = C.1 j) ∧ C'.2.2 = C.2.2 ∧ ∀ j, j ≠ 1 → C'.2.1 j = C.2.1 j
theorem CFr.rf : CFr C C := ⟨fun _ _ => rfl, rfl, fun _ _ => rfl⟩
theorem CFr.tr {C' C2 : CS} (h : CFr C C') (h2 : CFr C' C2) : CFr C C2 := ⟨fun j hj => (h2.1 j hj).trans (h.1 j hj), h2.2.1.trans h.2.1, fun j hj => (h2.2.2 j hj).trans (h.2.2 j hj)⟩
theorem CFr.c0 {C' : CS} {k : Nat} {v : Int32} (h : CFr C C') (hk : k = 1 ∨ k = 2 ∨ k = 3 ∨ k = 4 ∨ k = 6 ∨ k = 7 ∨ k = 8) : CFr C (c0 C' k v) := ⟨fun j hj => (c0_n (by omega)).trans (h.1 j hj), h.2⟩
theorem CFr.of {C' : CS} (h : CT C C') : CFr C C' := ⟨fun j hj => h.1 j (by omega), by rw [h.2], fun j _ => by rw [h.2]⟩
theorem TP.cf {C' : CS} (h : TP tp C) (h2 : CFr C C') : TP tp C' := by
  refine ⟨?_, h.2⟩
  rw [h2.1 0 (Or.inl rfl), h2.2.2 0 (by decide)]; exact h.1
/-- all is well so far: the token at hand, the steps so far -/
def Live (tp : List Nat) (C : CS) (τ : TOK) (L : List STP) : Prop := TP tp C ∧ TK tp C τ ∧ wfT tp τ ∧ C.1 6 = nI L.length ∧ 2 * L.length ≤ τ.2.2.1 ∧ (∀ (i : Nat) (x : STP), L[i]? = some x → C.2.1 1 i = nI (encS x)) ∧ ¬ C.1 7 = 1
/-- something was wrong at place e -/
def Dead (tp : List Nat) (C : CS) (e b : Nat) : Prop := TP tp C ∧ C.1 1 = 2 ∧ C.1 7 = 1 ∧ C.1 8 = nI e ∧ ∃ s, C.1 6 = nI s ∧ s ≤ 300 + b
theorem Dead.up {e b b' : Nat} (h : Dead tp C e b) (hb : b ≤ b') : Dead tp C e b' := by
  obtain ⟨h1, h2, h3, h4, s, h5, h6⟩ := h
  exact ⟨h1, h2, h3, h4, s, h5, by omega⟩
/-- the notes are kept -/
def K78 (C C' : CS) : Prop := C'.1 7 = C.1 7 ∧ C'.1 8 = C.1 8 ∧ CFr C C'
theorem K78.rf : K78 C C := ⟨rfl, rfl, CFr.rf⟩
theorem K78.tr {C' C2 : CS} (h : K78 C C') (h2 : K78 C' C2) : K78 C C2 := ⟨h2.1.trans h.1, h2.2.1.trans h.2.1, h.2.2.tr h2.2.2⟩
theorem l_nx (hN : 700 ≤ N) (h : Live tp C τ L) : ∃ C', f_X7_step N (hp X C M T) (some 12) = some (hp X C' M T) ∧ Live tp C' (nx tp τ) L ∧ K78 C C' := by
  obtain ⟨h1, h2, h3, h4, h5, h6, h7⟩ := h
  obtain ⟨C', k1, k2, k3⟩ := k_tk (X := X) (M := M) (T := T) N h2
  obtain ⟨w1, w2⟩ := nx_wf h3 h1.2.2
  have := h3.1
  exact ⟨C', k1, ⟨h1.ct k3, k2, w1, (k3.1 6 (by decide)).trans h4, by omega, by rw [k3.2]; exact h6, by rw [k3.1 7 (by decide)]; exact h7⟩, k3.1 7 (by decide), k3.1 8 (by decide), CFr.of k3⟩
theorem l_refuse {bd : Nat} (h : Live tp C τ L) : ∃ C', f_X2_refuse (hp X C M T) (some 11) = some (hp X C' M T) ∧ Dead tp C' τ.2.2.1 bd ∧ CFr C C' := by
  obtain ⟨h1, h2, h3, h4, h5, h6, h7⟩ := h
  have cf : CFr C (c0 (c0 (c0 C 7 1) 8 (nI τ.2.2.1)) 1 2) := ((CFr.rf.c0 (by decide)).c0 (by decide)).c0 (by decide)
  refine ⟨c0 (c0 (c0 C 7 1) 8 (nI τ.2.2.1)) 1 2, rf_l io_11 gi_11_5 h7 (pi_11_5 _) gr_11_0 (p := nI τ.2.2.1) ?_ (pi_11_6 _) gr_11_0 (pi_12_6 _), ⟨h1.cf cf, c0_s, ?_, ?_, L.length, ?_, ?_⟩, cf⟩
  · rw [gi_12_8, c0_n (by decide), h2.2.2.1]
  · rw [c0_n (by decide), c0_n (by decide), c0_s]
  · rw [c0_n (by decide), c0_s]
  · rw [c0_n (by decide), c0_n (by decide), c0_n (by decide), h4]
  · have := h3.1; have := h3.2.1; have := h1.2.1; omega
theorem d_refuse {e bd : Nat} (h : Dead tp C e bd) : ∃ C', f_X2_refuse (hp X C M T) (some 11) = some (hp X C' M T) ∧ Dead tp C' e bd ∧ CFr C C' := by
  obtain ⟨h1, h2, h3, h4, s, h5, h6⟩ := h
  have cf : CFr C (c0 C 1 2) := CFr.rf.c0 (by decide)
  exact ⟨c0 C 1 2, rf_d io_11 gi_11_5 h3 gr_11_0 (pi_12_6 _), ⟨h1.cf cf, c0_s, by rw [c0_n (by decide), h3], by rw [c0_n (by decide), h4], s, by rw [c0_n (by decide), h5], h6⟩, cf⟩
theorem l_takes {k : Nat} (hN : 700 ≤ N) (h : Live tp C τ L) (hk : τ.1 = k) : ∃ C', f_X2_takes N (hp X C M T) (some 11) (nI k) = some (1, hp X C' M T) ∧ Live tp C' (nx tp τ) L ∧ K78 C C' := by
  obtain ⟨C', k1, k2, k3⟩ := l_nx (X := X) (M := M) (T := T) hN h
  exact ⟨C', ta_t io_11 gr_11_0 gi_12_6 (by rw [h.2.1.1, hk]) k1, k2, k3⟩
theorem l_takes_f {k : Nat} (h : Live tp C τ L) (hk : τ.1 ≠ k) (hk' : k < 400) : f_X2_takes N (hp X C M T) (some 11) (nI k) = some (0, hp X C M T) :=
  ta_f io_11 gr_11_0 gi_12_6 (by rw [h.2.1.1]; have := h.2.2.1.2.2.2.1; exact ne_nI hk (by omega) (by omega))
theorem d_takes {k e bd : Nat} (h : Dead tp C e bd) (hk : k ≠ 2) (hk' : k < 400) : f_X2_takes N (hp X C M T) (some 11) (nI k) = some (0, hp X C M T) :=
  ta_f io_11 gr_11_0 gi_12_6 (by rw [h.2.1]; exact ne_nI (a := 2) (Ne.symm hk) (by decide) (by omega))
theorem l_choice {a b : Nat} (hN : 700 ≤ N) (h : Live tp C τ L) (h1 : a ≤ τ.1) (h2 : τ.1 ≤ b) (hb : b < 400) : ∃ C', f_X2_choice N (hp X C M T) (some 11) (nI a) (nI b) = some (nI (τ.1 - a), hp X C' M T) ∧ Live tp C' (nx tp τ) L ∧ K78 C C' := by
  obtain ⟨C', k1, k2, k3⟩ := l_nx (X := X) (M := M) (T := T) hN h
  refine ⟨C', ?_, k2, k3⟩
  rw [← nI_sub' h1]
  exact chc_t io_11 gr_11_0 (gi_12_6.trans (congrArg some h.2.1.1)) (nI_nlt h1 (by omega)) (nI_le h2 (by omega)) k1
theorem l_choice_f {a b bd : Nat} (h : Live tp C τ L) (h1 : τ.1 < a ∨ b < τ.1) (ha : a < 400) (hb : b < 400) : ∃ C', f_X2_choice N (hp X C M T) (some 11) (nI a) (nI b) = some (0, hp X C' M T) ∧ Dead tp C' τ.2.2.1 bd ∧ CFr C C' := by
  obtain ⟨C', k1, k2, k3⟩ := l_refuse (X := X) (M := M) (T := T) h
  have hk := h.2.2.1.2.2.2.1
  refine ⟨C', ?_, k2, k3⟩
  by_cases h2 : τ.1 < a
  · exact chc_l io_11 gr_11_0 (gi_12_6.trans (congrArg some h.2.1.1)) (nI_lt h2 (by omega)) k1
  · exact chc_h io_11 gr_11_0 (gi_12_6.trans (congrArg some h.2.1.1)) (nI_nlt (by omega) (by omega)) (nI_ge (by omega) (by omega)) k1
theorem d_choice {a b e bd : Nat} (h : Dead tp C e bd) (h1 : 2 < a) (ha : a < 400) : ∃ C', f_X2_choice N (hp X C M T) (some 11) (nI a) (nI b) = some (0, hp X C' M T) ∧ Dead tp C' e bd ∧ CFr C C' := by
  obtain ⟨C', k1, k2, k3⟩ := d_refuse (X := X) (M := M) (T := T) h
  refine ⟨C', ?_, k2, k3⟩
  exact chc_l io_11 gr_11_0 (k := nI 2) (gi_12_6.trans (congrArg some h.2.1)) (nI_lt h1 (by omega)) k1
theorem l_needs {k : Nat} (hN : 700 ≤ N) (h : Live tp C τ L) (hk : τ.1 = k) : ∃ C', f_X2_needs N (hp X C M T) (some 11) (nI k) = some (hp X C' M T) ∧ Live tp C' (nx tp τ) L ∧ K78 C C' := by
  obtain ⟨C', k1, k2, k3⟩ := l_nx (X := X) (M := M) (T := T) hN h
  exact ⟨C', ne_t io_11 gr_11_0 gi_12_6 (by rw [h.2.1.1, hk]) k1, k2, k3⟩
theorem l_needs_f {k bd : Nat} (h : Live tp C τ L) (hk : τ.1 ≠ k) (hk' : k < 400) : ∃ C', f_X2_needs N (hp X C M T) (some 11) (nI k) = some (hp X C' M T) ∧ Dead tp C' τ.2.2.1 bd ∧ CFr C C' := by
  obtain ⟨C', k1, k2, k3⟩ := l_refuse (X := X) (M := M) (T := T) h
  exact ⟨C', ne_f io_11 gr_11_0 gi_12_6 (by rw [h.2.1.1]; have := h.2.2.1.2.2.2.1; exact ne_nI hk (by omega) (by omega)) k1, k2, k3⟩
theorem d_needs {k e bd : Nat} (h : Dead tp C e bd) (hk : k ≠ 2) (hk' : k < 400) : ∃ C', f_X2_needs N (hp X C M T) (some 11) (nI k) = some (hp X C' M T) ∧ Dead tp C' e bd ∧ CFr C C' := by
  obtain ⟨C', k1, k2, k3⟩ := d_refuse (X := X) (M := M) (T := T) h
  exact ⟨C', ne_f io_11 gr_11_0 gi_12_6 (by rw [h.2.1]; exact ne_nI (a := 2) (Ne.symm hk) (by decide) (by omega)) k1, k2, k3⟩
theorem l_hand (h : Live tp C τ L) : f_X2_termAtHand (hp X C M T) (some 11) = some (match tmOf τ with
    | some t => nI t
    | none => -1) := by
  have hk := h.2.2.1.2.2.2.1
  have g1 : gI (hp X C M T) (some 12) 7 6 = some (nI τ.1) := gi_12_6.trans (congrArg some h.2.1.1)
  have ne (k : Nat) (hk' : k < 400) (h1 : ¬ τ.1 = k) : ¬ nI τ.1 = nI k := ne_nI h1 (by omega) (by omega)
  unfold tmOf
  by_cases e1 : τ.1 = 1
  · rw [if_pos e1]
    exact th_n io_11 gr_11_0 g1 (by rw [e1]; rfl) (gi_12_7.trans (congrArg some (h.2.1.2.1 e1)))
  · rw [if_neg e1, th_w io_11 gr_11_0 g1 (ne 1 (by decide) e1)]
    by_cases e2 : τ.1 = 322
    · rw [if_pos e2, e2]; rfl
    · rw [if_neg e2]
      by_cases e3 : τ.1 = 309
      · rw [if_pos e3, e3]; rfl
      · rw [if_neg e3]
        by_cases e4 : τ.1 = 317
        · rw [if_pos e4, e4]; rfl
        · rw [if_neg e4]
          by_cases e5 : τ.1 = 315
          · rw [if_pos e5, e5]; rfl
          · rw [if_neg e5]
            by_cases e6 : τ.1 = 323
            · rw [if_pos e6, e6]; rfl
            · rw [if_neg e6, if_neg (show ¬ nI τ.1 = 309 from ne 309 (by decide) e3), if_neg (show ¬ nI τ.1 = 315 from ne 315 (by decide) e5), if_neg (show ¬ nI τ.1 = 317 from ne 317 (by decide) e4), if_neg (show ¬ nI τ.1 = 322 from ne 322 (by decide) e2), if_neg (show ¬ nI τ.1 = 323 from ne 323 (by decide) e6)]
theorem l_term {t : Nat} (hN : 700 ≤ N) (h : Live tp C τ L) (ht : tmOf τ = some t) : ∃ C', f_X2_readTerm N (hp X C M T) (some 11) = some (nI t, hp X C' M T) ∧ Live tp C' (nx tp τ) L ∧ K78 C C' := by
  obtain ⟨C', k1, k2, k3⟩ := l_nx (X := X) (M := M) (T := T) hN h
  have hh := l_hand (X := X) (M := M) (T := T) h
  rw [ht] at hh
  have hlt := (tm_lt h.2.2.1 ht).1
  refine ⟨C', rt_t io_11 hh (fun z => ?_) gr_11_0 k1, k2, k3⟩
  have := nI_pos (n := t) (by omega)
  rw [z] at this
  exact this (by decide)
theorem l_term_f {bd : Nat} (h : Live tp C τ L) (ht : tmOf τ = none) : ∃ C', f_X2_readTerm N (hp X C M T) (some 11) = some (0, hp X C' M T) ∧ Dead tp C' τ.2.2.1 bd ∧ CFr C C' := by
  obtain ⟨C', k1, k2, k3⟩ := l_refuse (X := X) (M := M) (T := T) h
  have hh := l_hand (X := X) (M := M) (T := T) h
  rw [ht] at hh
  exact ⟨C', rt_f io_11 hh rfl k1, k2, k3⟩
theorem d_term {e bd : Nat} (h : Dead tp C e bd) : ∃ C', f_X2_readTerm N (hp X C M T) (some 11) = some (0, hp X C' M T) ∧ Dead tp C' e bd ∧ CFr C C' := by
  obtain ⟨C', k1, k2, k3⟩ := d_refuse (X := X) (M := M) (T := T) h
  have hh : f_X2_termAtHand (hp X C M T) (some 11) = some (-1) := by
    rw [th_w io_11 gr_11_0 (k := 2) (gi_12_6.trans (congrArg some h.2.1)) (by decide)]; rfl
  exact ⟨C', rt_f io_11 hh rfl k1, k2, k3⟩
theorem l_add {d l r : Nat} (h : Live tp C τ L) (hl : l < 2048) (hr : r < 2048) (hn : 2 * (L.length + 1) ≤ τ.2.2.1) : ∃ C', f_X2_addStep (hp X C M T) (some 11) (nI d) (nI l) (nI r) = some (hp X C' M T) ∧ Live tp C' τ (L ++ [(d, l, r)]) ∧ K78 C C' := by
  obtain ⟨h1, h2, h3, h4, h5, h6, h7⟩ := h
  have hb : L.length < 600 := by have := h3.1; have := h3.2.1; have := h1.2.1; omega
  have cf : CFr C (c0 (ca C 1 (upd (C.2.1 1) L.length (nI (encS (d, l, r))))) 6 (nI (L.length + 1))) := ⟨fun j hj => by rw [c0_n (by omega)]; rfl, rfl, fun j hj => up_n _ _ hj⟩
  refine ⟨c0 (ca C 1 (upd (C.2.1 1) L.length (nI (encS (d, l, r))))) 6 (nI (L.length + 1)), as_t io_11 (gi_11_4.trans (congrArg some h4)) gr_11_2 ln_17 (nI_ge hb (by decide)) (k_enc hl hr) (si_17 hb) (by rw [gi_11_4]; exact congrArg some h4) (by rw [nI_1]; exact pi_11_4 _), ⟨h1.cf cf, ?_, h3, ?_, ?_, ?_, ?_⟩, ?_, ?_, cf⟩
  · exact h2.fr (fun j hj => by rw [c0_n (by omega)]; rfl) (fun j hj => up_n _ _ (by omega))
  · rw [c0_s, List.length_append, List.length_singleton]
  · rw [List.length_append, List.length_singleton]; exact hn
  · intro i x hx
    show up C.2.1 1 (upd (C.2.1 1) L.length (nI (encS (d, l, r)))) 1 i = _
    rw [up_s]
    rcases ap_some hx with ⟨g1, g2⟩ | ⟨rfl, rfl⟩
    · exact (if_neg (by omega)).trans (h6 i x g1)
    · exact if_pos rfl
  · rw [c0_n (by decide)]; exact h7
  · rw [c0_n (by decide)]; rfl
  · rw [c0_n (by decide)]; rfl
theorem d_add {e bd : Nat} {d l r : Int32} (h : Dead tp C e bd) (hbd : bd < 200) : ∃ C', f_X2_addStep (hp X C M T) (some 11) d l r = some (hp X C' M T) ∧ Dead tp C' e (bd + 1) ∧ CFr C C' := by
  obtain ⟨h1, h2, h3, h4, s, h5, h6⟩ := h
  have hs : s < 600 := by omega
  obtain ⟨v, hv⟩ : ∃ v, f_X0_step d l r = some v := ⟨_, rfl⟩
  have cf : CFr C (c0 (ca C 1 (upd (C.2.1 1) s v)) 6 (nI (s + 1))) := ⟨fun j hj => by rw [c0_n (by omega)]; rfl, rfl, fun j hj => up_n _ _ hj⟩
  refine ⟨c0 (ca C 1 (upd (C.2.1 1) s v)) 6 (nI (s + 1)), as_t io_11 (gi_11_4.trans (congrArg some h5)) gr_11_2 ln_17 (nI_ge hs (by decide)) hv (si_17 hs) (by rw [gi_11_4]; exact congrArg some h5) (by rw [nI_1]; exact pi_11_4 _), ⟨h1.cf cf, ?_, ?_, ?_, s + 1, c0_s, by omega⟩, cf⟩
  · rw [c0_n (by decide)]; exact h2
  · rw [c0_n (by decide)]; exact h3
  · rw [c0_n (by decide)]; exact h4
end RDL
