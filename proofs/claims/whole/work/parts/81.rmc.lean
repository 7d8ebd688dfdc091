/-! the text read: the reference's term, part, negated -/
section RMC
variable {A A1 A2 A3 A4 A5 A6 : LH} {q : Option Nat} {N : Nat} {a b c d x y p1 p2 p3 p4 p5 : Int32} {kE : LH → Option Nat → Option (Int32 × LH)} {r : Int32 × LH}
theorem te_n (h0 : isO A q 11 = true) (h1 : gI A q 11 21 = some x) (h2 : x = 3) (h3 : b_X11_term_83 N A q 0 = some (1, A1)) : f_X11_term N A q = some (1, A1) := by
  unfold f_X11_term b_X11_term
  rw [if_pos h0, bnd_eq h1, if_pos h2, h3, zc_1]
theorem te_w (h0 : isO A q 11 = true) (h1 : gI A q 11 21 = some x) (h2 : ¬ x = 3) (e1 : f_X11_isWord A q 1752135026 = some p1) (e2 : f_X11_isWord A q 427020345714 = some p2) (e3 : f_X11_isWord A q 465558725996 = some p3) (e4 : f_X11_isWord A q 1802071652 = some p4) (e5 : f_X11_isWord A q 113741193900147 = some p5) : f_X11_term N A q = zc (if p1 = 0 then (if p2 = 0 then (if p3 = 0 then (if p4 = 0 then (if p5 = 0 then b_X11_term_83 N A q (-1) else b_X11_term_83 N A q 5) else b_X11_term_83 N A q 4) else b_X11_term_83 N A q 3) else b_X11_term_83 N A q 2) else b_X11_term_83 N A q 1) := by
  unfold f_X11_term b_X11_term
  rw [if_pos h0, bnd_eq h1, if_neg h2, bnd_eq e1, e2, e3, e4, e5]
  rfl
theorem pa_o (h0 : isO A q 11 = true) (h1 : f_X11_isSign A q 40 = some 1) (h2 : f_X11_next N A q = some A1) (h3 : kE A1 q = some (1, A2)) (h4 : f_X11_need N A2 q 41 = some (1, A3)) : f_X11_part N kE A q = some (1, A3) := by
  unfold f_X11_part b_X11_part
  rw [if_pos h0, bnd_eq h1, if_neg i1_ne, bnd_eq h2, bnd_eq h3, if_neg i1_ne, bnd_eq h4, if_neg i1_ne, zc_1]
theorem pa_o2 (h0 : isO A q 11 = true) (h1 : f_X11_isSign A q 40 = some 1) (h2 : f_X11_next N A q = some A1) (h3 : kE A1 q = some (1, A2)) (h4 : f_X11_need N A2 q 41 = some (d, A3)) (hd : d = 0) : f_X11_part N kE A q = some (0, A3) := by
  unfold f_X11_part b_X11_part
  rw [if_pos h0, bnd_eq h1, if_neg i1_ne, bnd_eq h2, bnd_eq h3, if_neg i1_ne, bnd_eq h4, if_pos hd, zc_0]
theorem pa_o1 (h0 : isO A q 11 = true) (h1 : f_X11_isSign A q 40 = some 1) (h2 : f_X11_next N A q = some A1) (h3 : kE A1 q = some (d, A2)) (hd : d = 0) : f_X11_part N kE A q = some (0, A2) := by
  unfold f_X11_part b_X11_part
  rw [if_pos h0, bnd_eq h1, if_neg i1_ne, bnd_eq h2, bnd_eq h3, if_pos hd, zc_0]
theorem pa_w (h0 : isO A q 11 = true) (h1 : f_X11_isSign A q 40 = some c) (hc : c = 0) (h2 : f_X11_isWord A q 478745093490 = some 1) (h3 : f_X11_next N A q = some A1) (h4 : f_X11_put A1 q 6 0 = some A2) : f_X11_part N kE A q = some (1, A2) := by
  unfold f_X11_part b_X11_part
  rw [if_pos h0, bnd_eq h1, if_pos hc, bnd_eq h2, if_neg i1_ne, bnd_eq h3, bnd_eq h4, zc_1]
theorem pa_t (h0 : isO A q 11 = true) (h1 : f_X11_isSign A q 40 = some c) (hc : c = 0) (h2 : f_X11_isWord A q 478745093490 = some b) (hb : b = 0) (h3 : f_X11_term N A q = some (d, A1)) (hd : d = 0) : f_X11_part N kE A q = some (0, A1) := by
  unfold f_X11_part b_X11_part
  rw [if_pos h0, bnd_eq h1, if_pos hc, bnd_eq h2, if_pos hb, bnd_eq h3, if_pos hd, zc_0]
theorem pa_c (h0 : isO A q 11 = true) (h1 : f_X11_isSign A q 40 = some c) (hc : c = 0) (h2 : f_X11_isWord A q 478745093490 = some b) (hb : b = 0) (h3 : f_X11_term N A q = some (1, A1)) (e1 : f_X11_isSign A1 q 60 = some p1) (e2 : f_X11_isSign A1 q 62 = some p2) (e3 : f_X11_isSign A1 q 61 = some p3) : f_X11_part N kE A q = zc (if p1 = 0 then (if p2 = 0 then (if p3 = 0 then b_X11_part_110 N kE A1 q (-1) else b_X11_part_110 N kE A1 q 9) else b_X11_part_110 N kE A1 q 8) else b_X11_part_110 N kE A1 q 7) := by
  unfold f_X11_part b_X11_part
  rw [if_pos h0, bnd_eq h1, if_pos hc, bnd_eq h2, if_pos hb, bnd_eq h3, if_neg i1_ne, bnd_eq e1]
  dsimp only
  rw [e2, e3]
  rfl
theorem p110_w (ha : a = -1) (h1 : f_X11_wrong A q = some (0, A1)) : b_X11_part_110 N kE A q a = some (0, A1) := by
  unfold b_X11_part_110
  rw [if_pos ha, bnd_eq h1]
theorem p110 (ha : ¬ a = -1) (h1 : f_X11_next N A q = some A1) (h2 : f_X11_term N A1 q = some (d, A2)) (h3 : f_X11_put A2 q a 0 = some A3) : b_X11_part_110 N kE A q a = some (d, A3) := by
  unfold b_X11_part_110
  rw [if_neg ha, bnd_eq h1, bnd_eq h2, bnd_eq h3]
theorem ng_1 (h0 : isO A q 11 = true) (h1 : f_X11_isWord A q 7237492 = some 1) (h2 : f_X11_next N A q = some A1) (h3 : f_X11_part N kE A1 q = some (1, A2)) (h4 : f_X11_put A2 q 10 0 = some A3) : f_X11_negated N kE A q = some (1, A3) := by
  unfold f_X11_negated b_X11_negated b_X11_negated_16
  rw [if_pos h0, bnd_eq h1, if_neg i1_ne, bnd_eq h2, bnd_eq h3, if_neg i1_ne, if_neg i1_ne, bnd_eq h4, zc_1]
theorem ng_2 (h0 : isO A q 11 = true) (h1 : f_X11_isWord A q 7237492 = some 1) (h2 : f_X11_next N A q = some A1) (h3 : f_X11_part N kE A1 q = some (d, A2)) (hd : d = 0) : f_X11_negated N kE A q = some (0, A2) := by
  unfold f_X11_negated b_X11_negated b_X11_negated_16
  rw [if_pos h0, bnd_eq h1, if_neg i1_ne, bnd_eq h2, bnd_eq h3, if_pos hd, hd, zc_0]
theorem ng_3 (h0 : isO A q 11 = true) (h1 : f_X11_isWord A q 7237492 = some c) (hc : c = 0) (h3 : f_X11_part N kE A q = some (1, A2)) : f_X11_negated N kE A q = some (1, A2) := by
  unfold f_X11_negated b_X11_negated b_X11_negated_16
  rw [if_pos h0, bnd_eq h1, if_pos hc, bnd_eq h3, if_neg i1_ne, if_pos hc, zc_1]
theorem ng_4 (h0 : isO A q 11 = true) (h1 : f_X11_isWord A q 7237492 = some c) (hc : c = 0) (h3 : f_X11_part N kE A q = some (d, A2)) (hd : d = 0) : f_X11_negated N kE A q = some (0, A2) := by
  unfold f_X11_negated b_X11_negated b_X11_negated_16
  rw [if_pos h0, bnd_eq h1, if_pos hc, bnd_eq h3, if_pos hd, hd, zc_0]
end RMC
section RMD
variable {X : XS} {C : CS} {M : MS} {T : TS} {tp : List Nat} {τ : TOK} {N : Nat} {D : List (Nat × Nat)}
theorem W_22 : (1752135026 : Int64) = wJ [104,111,117,114] := by decide
theorem W_9 : (427020345714 : Int64) = wJ [99,108,101,97,114] := by decide
theorem W_17 : (465558725996 : Int64) = wJ [108,101,118,101,108] := by decide
theorem W_15 : (1802071652 : Int64) = wJ [107,105,110,100] := by decide
theorem W_23 : (113741193900147 : Int64) = wJ [103,114,111,117,112,115] := by decide
theorem W_8 : (478745093490 : Int64) = wJ [111,119,110,101,114] := by decide
theorem W_21 : (7237492 : Int64) = wJ [110,111,116] := by decide
theorem W_20 : (6385252 : Int64) = wJ [97,110,100] := by decide
theorem W_19 : (28530 : Int64) = wJ [111,114] := by decide
/-- the answer to 'is it this word' -/
theorem r_wd {i : Nat} {u : List Nat} {w : Int64} (h : TM M τ) (hi : i < 24) (hu : WL[i]? = some u) (hw : w = wJ u) : f_X11_isWord (hp X C M T) (some 35) w = some (if τ.1 = 300 + i then 1 else 0) := by
  by_cases hk : τ.1 = 300 + i
  · rw [if_pos hk]; exact r_word h hi hu hw hk
  · rw [if_neg hk]; exact r_word_f h hi hu hw hk
theorem r_sg {c : Nat} (h : TM M τ) (hc : gL c = true) : f_X11_isSign (hp X C M T) (some 35) (nI c) = some (if τ.1 = c then 1 else 0) := by
  by_cases hk : τ.1 = c
  · rw [if_pos hk]; exact r_sign h hc hk
  · rw [if_neg hk]; exact r_sign_f h hc hk
theorem tm_num (h : TM M τ) : M.1 21 = 3 ↔ τ.1 = 1 := by
  rcases h.1 with h1 | h1 | h1 | h1 | ⟨v, h2, h3, h4, h5⟩
  · rw [h1.2]; exact ⟨fun z => absurd z (by decide), fun z => by omega⟩
  · exact ⟨fun _ => h1.1, fun _ => h1.2.1⟩
  · rw [h1.2]; exact ⟨fun z => absurd z (by decide), fun z => by omega⟩
  · have := gL_lt h1.1
    rw [h1.2.1]; exact ⟨fun z => absurd z (by decide), fun z => by omega⟩
  · rw [h3]; exact ⟨fun z => absurd z (by decide), fun z => absurd (h5.symm.trans z) (kOf_1 v)⟩
theorem tm_val (h : TM M τ) (h1 : τ.1 = 1) : M.1 22 = nI τ.2.1 := by
  rcases h.1 with h1 | h1 | h1 | h1 | ⟨v, h2, h3, h4, h5⟩
  · omega
  · exact h1.2.2
  · omega
  · have := gL_lt h1.1; omega
  · exact absurd (h5.symm.trans h1) (kOf_1 v)
theorem r_te (h : MLv tp M τ D) (h1 : ¬ τ.1 = 1) : f_X11_term N (hp X C M T) (some 35) = zc (if τ.1 = 322 then b_X11_term_83 N (hp X C M T) (some 35) 1 else if τ.1 = 309 then b_X11_term_83 N (hp X C M T) (some 35) 2 else if τ.1 = 317 then b_X11_term_83 N (hp X C M T) (some 35) 3 else if τ.1 = 315 then b_X11_term_83 N (hp X C M T) (some 35) 4 else if τ.1 = 323 then b_X11_term_83 N (hp X C M T) (some 35) 5 else b_X11_term_83 N (hp X C M T) (some 35) (-1)) := by
  rw [te_w io_35 gi_35_21 (fun z => h1 ((tm_num h.2.1).mp z)) (r_wd h.2.1 (i := 22) (by decide) rfl W_22) (r_wd h.2.1 (i := 9) (by decide) rfl W_9) (r_wd h.2.1 (i := 17) (by decide) rfl W_17) (r_wd h.2.1 (i := 15) (by decide) rfl W_15) (r_wd h.2.1 (i := 23) (by decide) rfl W_23)]
  have e : ∀ (p : Prop) [Decidable p] (a b : Option (Int32 × LH)), (if (if p then (1 : Int32) else 0) = 0 then a else b) = if p then b else a := by
    intro p _ a b
    by_cases hp : p
    · rw [if_pos hp, if_pos hp, if_neg i1_ne]
    · rw [if_neg hp, if_neg hp, if_pos rfl]
  rw [e, e, e, e, e]
theorem r_term {t : Nat} (hN : 700 ≤ N) (h : MLv tp M τ D) (hD : D.length < 900) (ht : tmOf τ = some t) : ∃ M', f_X11_term N (hp X C M T) (some 35) = some (1, hp X C M' T) ∧ MLv tp M' (nx tp τ) (D ++ [tmS t]) ∧ MKp M M' := by
  have st : ∀ (a b : Nat), a < 16 → ∃ M', b_X11_term_108 N (hp X C M T) (some 35) (nI b) (nI a) (some 35) = some (1, hp X C M' T) ∧ MLv tp M' (nx tp τ) (D ++ [(a, b)]) ∧ MKp M M' := by
    intro a b ha
    obtain ⟨M1, k1, k2, k3⟩ := r_put (X := X) (C := C) (T := T) (b := b) h hD ha
    obtain ⟨M2, l1, l2, l3⟩ := r_nx (X := X) (C := C) (T := T) hN k2
    exact ⟨M2, tm_108 k1 l1, l2, k3.tr l3⟩
  by_cases h1 : τ.1 = 1
  · unfold tmOf at ht
    rw [if_pos h1] at ht
    have := h.2.2.1.2.2.2.2.1 h1
    cases ht
    obtain ⟨M', k1, k2, k3⟩ := st 0 τ.2.1 (by decide)
    refine ⟨M', te_n io_35 gi_35_21 ((tm_num h.2.1).mpr h1) (tm_83_n (by decide) rfl (gi_35_22.trans (congrArg some (tm_val h.2.1 h1))) k1), ?_, k3⟩
    unfold tmS
    rw [if_pos this]
    exact k2
  · rw [r_te h h1]
    unfold tmOf at ht
    rw [if_neg h1] at ht
    have fin : ∀ (k t : Nat), k < 6 → 1 ≤ k → t = 999 + k → ∃ M', zc (b_X11_term_83 N (hp X C M T) (some 35) (nI k)) = some (1, hp X C M' T) ∧ MLv tp M' (nx tp τ) (D ++ [tmS t]) ∧ MKp M M' := by
      intro k t hk hk1 ht
      obtain ⟨M', k1, k2, k3⟩ := st k 0 (by omega)
      refine ⟨M', ?_, ?_, k3⟩
      · have : ¬ nI k = -1 ∧ ¬ nI k = 0 := ⟨fun z => ?_, ne_nI (b := 0) (by omega) (by omega) (by decide)⟩
        · rw [tm_83_o this.1 this.2 k1, zc_1]
        · have := nI_pos (n := k) (by omega)
          rw [z] at this
          exact this (by decide)
      · unfold tmS
        rw [if_neg (by omega), show t - 999 = k by omega]
        exact k2
    by_cases e1 : τ.1 = 322
    · rw [if_pos e1] at ht ⊢; cases ht; exact fin 1 _ (by decide) (by decide) rfl
    · rw [if_neg e1] at ht ⊢
      by_cases e2 : τ.1 = 309
      · rw [if_pos e2] at ht ⊢; cases ht; exact fin 2 _ (by decide) (by decide) rfl
      · rw [if_neg e2] at ht ⊢
        by_cases e3 : τ.1 = 317
        · rw [if_pos e3] at ht ⊢; cases ht; exact fin 3 _ (by decide) (by decide) rfl
        · rw [if_neg e3] at ht ⊢
          by_cases e4 : τ.1 = 315
          · rw [if_pos e4] at ht ⊢; cases ht; exact fin 4 _ (by decide) (by decide) rfl
          · rw [if_neg e4] at ht ⊢
            by_cases e5 : τ.1 = 323
            · rw [if_pos e5] at ht ⊢; cases ht; exact fin 5 _ (by decide) (by decide) rfl
            · rw [if_neg e5] at ht; cases ht
theorem r_term_f {s : Nat} (h : MLv tp M τ D) (hD : D.length ≤ 600 + s) (ht : tmOf τ = none) : ∃ M', f_X11_term N (hp X C M T) (some 35) = some (0, hp X C M' T) ∧ MDd tp M' τ.2.2.1 s ∧ MFr M M' := by
  obtain ⟨M', k1, k2, k3⟩ := r_wrong (X := X) (C := C) (T := T) h hD
  refine ⟨M', ?_, k2, k3⟩
  unfold tmOf at ht
  by_cases h1 : τ.1 = 1
  · rw [if_pos h1] at ht; cases ht
  · rw [r_te h h1]
    rw [if_neg h1] at ht
    by_cases e1 : τ.1 = 322
    · rw [if_pos e1] at ht; cases ht
    · rw [if_neg e1] at ht ⊢
      by_cases e2 : τ.1 = 309
      · rw [if_pos e2] at ht; cases ht
      · rw [if_neg e2] at ht ⊢
        by_cases e3 : τ.1 = 317
        · rw [if_pos e3] at ht; cases ht
        · rw [if_neg e3] at ht ⊢
          by_cases e4 : τ.1 = 315
          · rw [if_pos e4] at ht; cases ht
          · rw [if_neg e4] at ht ⊢
            by_cases e5 : τ.1 = 323
            · rw [if_pos e5] at ht; cases ht
            · rw [if_neg e5, tm_83_w rfl k1, zc_0]
end RMD
