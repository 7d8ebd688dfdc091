/-! the text read: the reference reads what pE reads -/
section RME
variable {X : XS} {C : CS} {M : MS} {T : TS} {tp : List Nat} {τ : TOK} {N : Nat} {D : List (Nat × Nat)} {kE : LH → Option Nat → Option (Int32 × LH)} {E : TOK → PR} {o s m : Nat}
/-- the reference reads what P reads; s: how many codes more it may put when something is wrong -/
def RP (tp : List Nat) (X : XS) (C : CS) (T : TS) (o s : Nat) (F : LH → Option (Int32 × LH)) (P : TOK → PR) : Prop := ∀ (M : MS) (τ : TOK) (D : List (Nat × Nat)), MLv tp M τ D → D.length ≤ τ.2.2.1 → M.1 28 = nI o → match P τ with
    | .inr p => ∃ M', F (hp X C M T) = some (1, hp X C M' T) ∧ MLv tp M' p.2 (D ++ p.1.flatMap expS) ∧ MKp M M'
    | .inl e => ∃ M', F (hp X C M T) = some (0, hp X C M' T) ∧ MDd tp M' e s ∧ MFr M M'
theorem MLv.le (h : MLv tp M τ D) : τ.2.2.1 ≤ 600 := by have := h.2.2.1.1; have := h.2.2.1.2.1; have := h.1.2.1; omega
theorem MKp.op {M' : MS} (h : MKp M M') (ho : M.1 28 = nI o) : M'.1 28 = nI o := (h.2.2.1 28 (by decide)).trans ho
theorem r_cmp (hN : 700 ≤ N) (hb : ∀ x ∈ tp, x < 256) (h : MLv tp M τ D) (hD : D.length ≤ τ.2.2.1) (h40 : τ.1 ≠ 40) (h308 : τ.1 ≠ 308) : match pCmp tp τ with
    | .inr p => ∃ M', f_X11_part N kE (hp X C M T) (some 35) = some (1, hp X C M' T) ∧ MLv tp M' p.2 (D ++ p.1.flatMap expS) ∧ MKp M M'
    | .inl e => ∃ M', f_X11_part N kE (hp X C M T) (some 35) = some (0, hp X C M' T) ∧ MDd tp M' e 1 ∧ MFr M M' := by
  have t1 := r_sign_f (X := X) (C := C) (T := T) (c := 40) h.2.1 rfl h40
  have t2 := r_word_f (X := X) (C := C) (T := T) (i := 8) h.2.1 (by decide) rfl W_8 h308
  have hl := h.le
  unfold pCmp
  cases hl' : tmOf τ with
  | none =>
    obtain ⟨M1, a1, a2, a3⟩ := r_term_f (X := X) (C := C) (T := T) (N := N) (s := 1) h (by omega) hl'
    exact ⟨M1, pa_t io_35 t1 rfl t2 rfl a1 rfl, a2, a3⟩
  | some l =>
    obtain ⟨M1, a1, a2, a3⟩ := r_term (X := X) (C := C) (T := T) hN h (by omega) hl'
    have hc := pa_c (kE := kE) io_35 t1 rfl t2 rfl a1 (r_sg (c := 60) a2.2.1 rfl) (r_sg (c := 62) a2.2.1 rfl) (r_sg (c := 61) a2.2.1 rfl)
    obtain ⟨v1, v2⟩ := tm_lt h.2.2.1 hl'
    have e0 := h.2.2.1.2.2.1 v2
    have e1 := (nx_wf h.2.2.1 hb).2
    have ln : (D ++ [tmS l]).length = D.length + 1 := by rw [List.length_append]; rfl
    have l1 := a2.le
    by_cases hs : 60 ≤ (nx tp τ).1 ∧ (nx tp τ).1 ≤ 62
    · simp only [if_pos hs]
      obtain ⟨M2, b1, b2, b3⟩ := r_nx (X := X) (C := C) (T := T) hN a2
      have l2 := b2.le
      have op : ∀ a : Nat, a < 16 → a = opS ((nx tp τ).1 - 60) → match (match tmOf (nx tp (nx tp τ)) with
          | none => .inl (nx tp (nx tp τ)).2.2.1
          | some r => .inr ([((nx tp τ).1 - 60, l, r)], nx tp (nx tp (nx tp τ))) : PR) with
          | .inr p => ∃ M', zc (b_X11_part_110 N kE (hp X C M1 T) (some 35) (nI a)) = some (1, hp X C M' T) ∧ MLv tp M' p.2 (D ++ p.1.flatMap expS) ∧ MKp M M'
          | .inl e => ∃ M', zc (b_X11_part_110 N kE (hp X C M1 T) (some 35) (nI a)) = some (0, hp X C M' T) ∧ MDd tp M' e 1 ∧ MFr M M' := by
        intro a ha hao
        have hm1 : ¬ nI a = -1 := fun z => by
          have := nI_pos (n := a) (by omega)
          rw [z] at this
          exact this (by decide)
        cases hr : tmOf (nx tp (nx tp τ)) with
        | none =>
          obtain ⟨M3, c1, c2, c3⟩ := r_term_f (X := X) (C := C) (T := T) (N := N) (s := 0) b2 (by omega) hr
          obtain ⟨M4, d1, d2, d3⟩ := d_put (X := X) (C := C) (T := T) (a := a) (b := 0) c2 (by decide) ha
          refine ⟨M4, ?_, d2, ((a3.2.2.tr b3.2.2).tr c3).tr d3⟩
          rw [p110 hm1 b1 c1 d1, zc_0]
        | some r =>
          obtain ⟨M3, c1, c2, c3⟩ := r_term (X := X) (C := C) (T := T) hN b2 (by omega) hr
          obtain ⟨M4, d1, d2, d3⟩ := r_put (X := X) (C := C) (T := T) (a := a) (b := 0) c2 (by rw [List.length_append, ln]; show D.length + 1 + 1 < 900; omega) ha
          refine ⟨M4, ?_, ?_, ((a3.tr b3).tr c3).tr d3⟩
          · rw [p110 hm1 b1 c1 d1, zc_1]
          · show MLv tp M4 (nx tp (nx tp (nx tp τ))) (D ++ List.flatMap expS [((nx tp τ).1 - 60, l, r)])
            rw [List.flatMap_singleton]
            unfold expS
            rw [if_pos (show (nx tp τ).1 - 60 < 3 by omega), ← hao]
            rw [List.append_assoc, List.append_assoc] at d2
            exact d2
      by_cases g1 : (nx tp τ).1 = 60
      · have := op 7 (by decide) (by rw [g1]; rfl)
        rw [hc, if_pos g1, if_neg i1_ne]
        exact this
      · by_cases g2 : (nx tp τ).1 = 62
        · have := op 8 (by decide) (by rw [g2]; rfl)
          rw [hc, if_neg g1, if_pos rfl, if_pos g2, if_neg i1_ne]
          exact this
        · have g3 : (nx tp τ).1 = 61 := by omega
          have := op 9 (by decide) (by rw [g3]; rfl)
          rw [hc, if_neg g1, if_pos rfl, if_neg g2, if_pos rfl, if_pos g3, if_neg i1_ne]
          exact this
    · simp only [if_neg hs]
      obtain ⟨M2, b1, b2, b3⟩ := r_wrong (X := X) (C := C) (T := T) (s := 1) a2 (by omega)
      refine ⟨M2, ?_, b2, a3.2.2.tr b3⟩
      rw [hc, if_neg (show ¬ (nx tp τ).1 = 60 by omega), if_pos rfl, if_neg (show ¬ (nx tp τ).1 = 62 by omega), if_pos rfl, if_neg (show ¬ (nx tp τ).1 = 61 by omega), if_pos rfl, p110_w rfl b1, zc_0]
theorem rp_part (hN : 700 ≤ N) (hb : ∀ x ∈ tp, x < 256) (hs : 1 ≤ s) (hO : OKP tp m E) (hE : RP tp X C T o s (fun A => kE A (some 35)) E) : RP tp X C T o s (fun A => f_X11_part N kE A (some 35)) (pOne tp E) := by
  intro M τ D h hD ho
  have hl := h.le
  unfold pOne
  by_cases h40 : τ.1 = 40
  · rw [if_pos h40]
    obtain ⟨M1, a1, a2, a3⟩ := r_nx (X := X) (C := C) (T := T) hN h
    have t1 := r_sign (X := X) (C := C) (T := T) (c := 40) h.2.1 rfl h40
    have e1 := (nx_wf h.2.2.1 hb).2
    have e0 := h.2.2.1.1
    have hh := hE M1 (nx tp τ) D a2 (by omega) (a3.op ho)
    cases hp' : E (nx tp τ) with
    | inl e =>
      rw [hp'] at hh
      obtain ⟨M2, b1, b2, b3⟩ := hh
      exact ⟨M2, pa_o1 io_35 t1 a1 b1 rfl, b2, a3.2.2.tr b3⟩
    | inr p =>
      rw [hp'] at hh
      obtain ⟨M2, b1, b2, b3⟩ := hh
      obtain ⟨g1, g2, g3, g4, g5, g6⟩ := hO _ p.1 p.2 a2.2.2.1 hp'
      have l2 := b2.le
      show match (if p.2.1 = 41 then .inr (p.1, nx tp p.2) else .inl p.2.2.2.1 : PR) with
        | .inr p => ∃ M', f_X11_part N kE (hp X C M T) (some 35) = some (1, hp X C M' T) ∧ MLv tp M' p.2 (D ++ p.1.flatMap expS) ∧ MKp M M'
        | .inl e => ∃ M', f_X11_part N kE (hp X C M T) (some 35) = some (0, hp X C M' T) ∧ MDd tp M' e s ∧ MFr M M'
      by_cases h41 : p.2.1 = 41
      · rw [if_pos h41]
        obtain ⟨M3, c1, c2, c3⟩ := r_need (X := X) (C := C) (T := T) (c := 41) hN b2 rfl h41
        exact ⟨M3, pa_o io_35 t1 a1 b1 c1, c2, (a3.tr b3).tr c3⟩
      · rw [if_neg h41]
        obtain ⟨M3, c1, c2, c3⟩ := r_need_f (X := X) (C := C) (T := T) (N := N) (s := s) (c := 41) b2 (by rw [List.length_append]; omega) rfl h41
        exact ⟨M3, pa_o2 io_35 t1 a1 b1 c1 rfl, c2, (a3.2.2.tr b3.2.2).tr c3⟩
  · rw [if_neg h40]
    have t1 := r_sign_f (X := X) (C := C) (T := T) (c := 40) h.2.1 rfl h40
    by_cases h308 : τ.1 = 308
    · rw [if_pos h308]
      have t2 := r_word (X := X) (C := C) (T := T) (i := 8) h.2.1 (by decide) rfl W_8 h308
      obtain ⟨M1, a1, a2, a3⟩ := r_nx (X := X) (C := C) (T := T) hN h
      obtain ⟨M2, b1, b2, b3⟩ := r_put (X := X) (C := C) (T := T) (a := 6) (b := 0) a2 (by omega) (by decide)
      exact ⟨M2, pa_w io_35 t1 rfl t2 a1 b1, b2, a3.tr b3⟩
    · rw [if_neg h308]
      have hh := r_cmp (X := X) (C := C) (T := T) (kE := kE) hN hb h hD h40 h308
      cases hp' : pCmp tp τ with
      | inl e =>
        rw [hp'] at hh
        obtain ⟨M1, a1, a2, a3⟩ := hh
        exact ⟨M1, a1, a2.up hs, a3⟩
      | inr p =>
        rw [hp'] at hh
        exact hh
theorem rp_neg (hN : 700 ≤ N) (hb : ∀ x ∈ tp, x < 256) (hs : 1 ≤ s) (hm : 1 ≤ m) (hO : OKP tp m E) (hE : RP tp X C T o s (fun A => kE A (some 35)) E) : RP tp X C T o s (fun A => f_X11_negated N kE A (some 35)) (pNeg tp E) := by
  intro M τ D h hD ho
  have k1 := rp_part (N := N) hN hb hs hO hE
  unfold pNeg
  by_cases hk : τ.1 = 321
  · rw [if_pos hk]
    have t1 := r_word (X := X) (C := C) (T := T) (i := 21) h.2.1 (by decide) rfl W_21 hk
    obtain ⟨M1, a1, a2, a3⟩ := r_nx (X := X) (C := C) (T := T) hN h
    have e1 := (nx_wf h.2.2.1 hb).2
    have e0 := h.2.2.1.1
    have hh := k1 M1 (nx tp τ) D a2 (by omega) (a3.op ho)
    cases hp' : pOne tp E (nx tp τ) with
    | inl e =>
      rw [hp'] at hh
      obtain ⟨M2, b1, b2, b3⟩ := hh
      exact ⟨M2, ng_2 io_35 t1 a1 b1 rfl, b2, a3.2.2.tr b3⟩
    | inr p =>
      rw [hp'] at hh
      obtain ⟨M2, b1, b2, b3⟩ := hh
      obtain ⟨g1, g2, g3, g4, g5, g6⟩ := ok_one hb hm hO _ p.1 p.2 a2.2.2.1 hp'
      have l2 := b2.le
      obtain ⟨M3, c1, c2, c3⟩ := r_put (X := X) (C := C) (T := T) (a := 10) (b := 0) b2 (by rw [List.length_append]; omega) (by decide)
      refine ⟨M3, ng_1 io_35 t1 a1 b1 c1, ?_, (a3.tr b3).tr c3⟩
      rw [List.append_assoc] at c2
      show MLv tp M3 p.2 (D ++ List.flatMap expS (p.1 ++ [(4, 0, 0)]))
      rw [List.flatMap_append]
      exact c2
  · rw [if_neg hk]
    have t1 := r_word_f (X := X) (C := C) (T := T) (i := 21) h.2.1 (by decide) rfl W_21 hk
    have hh := k1 M τ D h hD ho
    cases hp' : pOne tp E τ with
    | inl e =>
      rw [hp'] at hh
      obtain ⟨M2, b1, b2, b3⟩ := hh
      exact ⟨M2, ng_4 io_35 t1 rfl b1 rfl, b2, b3⟩
    | inr p =>
      rw [hp'] at hh
      obtain ⟨M2, b1, b2, b3⟩ := hh
      exact ⟨M2, ng_3 io_35 t1 rfl b1, b2, b3⟩
/-- a loop that, while all is well, takes the word of kind k, reads a part, puts the code c; then fin -/
def LPR (N : Nat) (X : XS) (C : CS) (T : TS) (w : Int64) (c : Nat) (G : LH → Option (Int32 × LH)) (fin : LH → Int32 → Option (Int32 × LH)) (l : Nat → LH → Int32 → Option (Int32 × LH)) : Prop :=
  (∀ (n : Nat) (M : MS), l (n + 1) (hp X C M T) 0 = fin (hp X C M T) 0) ∧
  (∀ (n : Nat) (M : MS), f_X11_isWord (hp X C M T) (some 35) w = some 0 → l (n + 1) (hp X C M T) 1 = fin (hp X C M T) 1) ∧
  (∀ (n : Nat) (M M1 M2 M3 : MS) (r : Int32), f_X11_isWord (hp X C M T) (some 35) w = some 1 → f_X11_next N (hp X C M T) (some 35) = some (hp X C M1 T) → G (hp X C M1 T) = some (r, hp X C M2 T) → f_X11_put (hp X C M2 T) (some 35) (nI c) 0 = some (hp X C M3 T) → l (n + 1) (hp X C M T) 1 = l n (hp X C M3 T) r)
theorem lr_more {i d : Nat} {u : List Nat} {w : Int64} {G : LH → Option (Int32 × LH)} {P : TOK → PR} {fin : LH → Int32 → Option (Int32 × LH)} {l : Nat → LH → Int32 → Option (Int32 × LH)} (hN : 700 ≤ N) (hb : ∀ x ∈ tp, x < 256) (hi : i < 24) (hu : WL[i]? = some u) (hw : w = wJ u) (hl : LPR N X C T w (opS d) G fin l) (hd : 4 < d) (hd7 : d < 7) (hO : OKP tp m P) (hs : s ≤ 100) (hG : RP tp X C T o s G P) : ∀ (n k : Nat) (M : MS) (τ : TOK) (D : List (Nat × Nat)), MLv tp M τ D → D.length ≤ τ.2.2.1 → M.1 28 = nI o → tp.length < τ.2.2.2 + n → n < k → match pMore tp (300 + i) d P n τ with
    | .inr p => ∃ M', l k (hp X C M T) 1 = fin (hp X C M' T) 1 ∧ MLv tp M' p.2 (D ++ p.1.flatMap expS) ∧ MKp M M'
    | .inl e => ∃ M', l k (hp X C M T) 1 = fin (hp X C M' T) 0 ∧ MDd tp M' e (s + 1) ∧ MFr M M' := by
  intro n
  induction n with
  | zero =>
    intro k M τ D h _ _ hn _
    have := h.2.2.1.2.1
    omega
  | succ n ih =>
    intro k M τ D h hD ho hn hk
    obtain ⟨k', rfl⟩ : ∃ k', k = k' + 1 := ⟨k - 1, by omega⟩
    obtain ⟨k2, rfl⟩ : ∃ k2, k' = k2 + 1 := ⟨k' - 1, by omega⟩
    have w0 := h.2.2.1
    have he : expS (d, 0, 0) = [(opS d, 0)] := by unfold expS; rw [if_neg (show ¬ d < 3 by omega)]
    have hop : opS d < 16 := by rcases (show d = 5 ∨ d = 6 by omega) with rfl | rfl <;> decide
    unfold pMore
    by_cases hk' : τ.1 = 300 + i
    · rw [if_pos hk']
      have t1 := r_word (X := X) (C := C) (T := T) h.2.1 hi hu hw hk'
      have e0 := w0.2.2.1 (by omega)
      obtain ⟨M1, a1, a2, a3⟩ := r_nx (X := X) (C := C) (T := T) hN h
      have e1 := (nx_wf w0 hb).2
      have hh := hG M1 (nx tp τ) D a2 (by omega) (a3.op ho)
      cases hp' : P (nx tp τ) with
      | inl e =>
        rw [hp'] at hh
        obtain ⟨M2, b1, b2, b3⟩ := hh
        obtain ⟨M3, c1, c2, c3⟩ := d_put (X := X) (C := C) (T := T) (a := opS d) (b := 0) b2 hs hop
        exact ⟨M3, (hl.2.2 (k2 + 1) M M1 M2 M3 0 t1 a1 b1 c1).trans (hl.1 k2 M3), c2, (a3.2.2.tr b3).tr c3⟩
      | inr p =>
        rw [hp'] at hh
        obtain ⟨M2, b1, b2, b3⟩ := hh
        obtain ⟨g1, g2, g3, g4, g5, g6⟩ := hO _ p.1 p.2 a2.2.2.1 hp'
        have l2 := b2.le
        have e5 := g1.1
        have e6 := g4.2
        have e7 : 1 ≤ p.1.length := List.length_pos_iff.mpr g4.1
        obtain ⟨M3, c1, c2, c3⟩ := r_put (X := X) (C := C) (T := T) (a := opS d) (b := 0) b2 (by rw [List.length_append]; omega) hop
        have hr := ih (k2 + 1) M3 p.2 (D ++ p.1.flatMap expS ++ [(opS d, 0)]) c2 (by rw [List.length_append, List.length_append]; show D.length + _ + 1 ≤ _; omega) (((a3.tr b3).tr c3).op ho) (by omega) (by omega)
        have st := hl.2.2 (k2 + 1) M M1 M2 M3 1 t1 a1 b1 c1
        show match (match pMore tp (300 + i) d P n p.2 with
          | .inl e => .inl e
          | .inr p2 => .inr (p.1 ++ (d, 0, 0) :: p2.1, p2.2) : PR) with
          | .inr p => ∃ M', l (k2 + 1 + 1) (hp X C M T) 1 = fin (hp X C M' T) 1 ∧ MLv tp M' p.2 (D ++ p.1.flatMap expS) ∧ MKp M M'
          | .inl e => ∃ M', l (k2 + 1 + 1) (hp X C M T) 1 = fin (hp X C M' T) 0 ∧ MDd tp M' e (s + 1) ∧ MFr M M'
        cases hq : pMore tp (300 + i) d P n p.2 with
        | inl e =>
          rw [hq] at hr
          obtain ⟨M4, d1, d2, d3⟩ := hr
          exact ⟨M4, st.trans d1, d2, ((a3.tr b3).tr c3).2.2.tr d3⟩
        | inr p2 =>
          rw [hq] at hr
          obtain ⟨M4, d1, d2, d3⟩ := hr
          refine ⟨M4, st.trans d1, ?_, ((a3.tr b3).tr c3).tr d3⟩
          show MLv tp M4 p2.2 (D ++ List.flatMap expS (p.1 ++ (d, 0, 0) :: p2.1))
          rw [List.flatMap_append, List.flatMap_cons, he]
          rw [List.append_assoc, List.append_assoc] at d2
          exact d2
    · rw [if_neg hk']
      have t1 := r_word_f (X := X) (C := C) (T := T) h.2.1 hi hu hw hk'
      exact ⟨M, hl.2.1 _ M t1, by rw [List.flatMap_nil, List.append_nil]; exact h, MKp.rf⟩
theorem lr_seq {i d : Nat} {u : List Nat} {w : Int64} {G : LH → Option (Int32 × LH)} {P : TOK → PR} {fin : LH → Int32 → Option (Int32 × LH)} {l : Nat → LH → Int32 → Option (Int32 × LH)} (hN : 700 ≤ N) (hb : ∀ x ∈ tp, x < 256) (hi : i < 24) (hu : WL[i]? = some u) (hw : w = wJ u) (hl : LPR N X C T w (opS d) G fin l) (hd : 4 < d) (hd7 : d < 7) (hO : OKP tp m P) (hs : s ≤ 100) (hG : RP tp X C T o s G P) (M : MS) (τ : TOK) (D : List (Nat × Nat)) (h : MLv tp M τ D) (hD : D.length ≤ τ.2.2.1) (ho : M.1 28 = nI o) : match pSeq tp (300 + i) d P τ with
    | .inr p => ∃ M', (G (hp X C M T)).bind (fun r => l N r.2 r.1) = fin (hp X C M' T) 1 ∧ MLv tp M' p.2 (D ++ p.1.flatMap expS) ∧ MKp M M'
    | .inl e => ∃ M', (G (hp X C M T)).bind (fun r => l N r.2 r.1) = fin (hp X C M' T) 0 ∧ MDd tp M' e (s + 1) ∧ MFr M M' := by
  have hh := hG M τ D h hD ho
  obtain ⟨n, rfl⟩ : ∃ n, N = n + 1 := ⟨N - 1, by omega⟩
  unfold pSeq
  cases hp' : P τ with
  | inl e =>
    rw [hp'] at hh
    obtain ⟨M2, b1, b2, b3⟩ := hh
    exact ⟨M2, (bnd_eq b1).trans (hl.1 n M2), b2.up (by omega), b3⟩
  | inr p =>
    rw [hp'] at hh
    obtain ⟨M2, b1, b2, b3⟩ := hh
    obtain ⟨g1, g2, g3, g4, g5, g6⟩ := hO _ p.1 p.2 h.2.2.1 hp'
    have hlen := h.1.2.1
    have hr := lr_more hN hb hi hu hw hl hd hd7 hO hs hG 601 (n + 1) M2 p.2 (D ++ p.1.flatMap expS) b2 (by rw [List.length_append]; omega) (b3.op ho) (by omega) (by omega)
    show match (match pMore tp (300 + i) d P 601 p.2 with
      | .inl e => .inl e
      | .inr p2 => .inr (p.1 ++ p2.1, p2.2) : PR) with
      | .inr p => ∃ M', (G (hp X C M T)).bind (fun r => l (n + 1) r.2 r.1) = fin (hp X C M' T) 1 ∧ MLv tp M' p.2 (D ++ p.1.flatMap expS) ∧ MKp M M'
      | .inl e => ∃ M', (G (hp X C M T)).bind (fun r => l (n + 1) r.2 r.1) = fin (hp X C M' T) 0 ∧ MDd tp M' e (s + 1) ∧ MFr M M'
    cases hq : pMore tp (300 + i) d P 601 p.2 with
    | inl e =>
      rw [hq] at hr
      obtain ⟨M4, d1, d2, d3⟩ := hr
      exact ⟨M4, (bnd_eq b1).trans d1, d2, b3.2.2.tr d3⟩
    | inr p2 =>
      rw [hq] at hr
      obtain ⟨M4, d1, d2, d3⟩ := hr
      refine ⟨M4, (bnd_eq b1).trans d1, ?_, b3.tr d3⟩
      show MLv tp M4 p2.2 (D ++ List.flatMap expS (p.1 ++ p2.1))
      rw [List.flatMap_append]
      rw [List.append_assoc] at d2
      exact d2
theorem lpr_both : LPR N X C T 6385252 11 (fun A => f_X11_negated N kE A (some 35)) (fun A v => some (v, A)) (fun n A v => l_X11_both_5 N kE n A (some 35) v) := by
  refine ⟨fun n M => ?_, fun n M h => ?_, fun n M M1 M2 M3 r h1 h2 h3 h4 => ?_⟩
  · show b_X11_both_5 N kE _ _ _ _ = _
    unfold b_X11_both_5
    exact if_pos rfl
  · show b_X11_both_5 N kE _ _ _ _ = _
    unfold b_X11_both_5
    exact (if_neg i1_ne).trans ((bnd_eq h).trans (if_pos rfl))
  · show b_X11_both_5 N kE _ _ _ _ = _
    unfold b_X11_both_5
    exact (if_neg i1_ne).trans ((bnd_eq h1).trans ((if_neg i1_ne).trans ((bnd_eq h2).trans ((bnd_eq h3).trans (bnd_eq h4)))))
theorem lpr_any : LPR N X C T 28530 12 (fun A => f_X11_both N kE A (some 35)) (fun A v => b_X11_any_62 N kE A (some 35) v) (fun n A v => l_X11_any_29 N kE n A (some 35) v) := by
  refine ⟨fun n M => ?_, fun n M h => ?_, fun n M M1 M2 M3 r h1 h2 h3 h4 => ?_⟩
  · show b_X11_any_29 N kE _ _ _ _ = _
    unfold b_X11_any_29
    exact if_pos rfl
  · show b_X11_any_29 N kE _ _ _ _ = _
    unfold b_X11_any_29
    exact (if_neg i1_ne).trans ((bnd_eq h).trans (if_pos rfl))
  · show b_X11_any_29 N kE _ _ _ _ = _
    unfold b_X11_any_29
    exact (if_neg i1_ne).trans ((bnd_eq h1).trans ((if_neg i1_ne).trans ((bnd_eq h2).trans ((bnd_eq h3).trans (bnd_eq h4)))))
theorem rp_both (hN : 700 ≤ N) (hb : ∀ x ∈ tp, x < 256) (hs : 1 ≤ s) (hs9 : s ≤ 100) (hm : 1 ≤ m) (hO : OKP tp m E) (hE : RP tp X C T o s (fun A => kE A (some 35)) E) : RP tp X C T o (s + 1) (fun A => f_X11_both N kE A (some 35)) (pBoth tp E) := by
  intro M τ D h hD ho
  have hh := lr_seq (i := 20) (d := 5) hN hb (by decide) rfl W_20 lpr_both (by decide) (by decide) (ok_neg hb hm hO) hs9 (rp_neg hN hb hs hm hO hE) M τ D h hD ho
  have un : ∀ v A1, (f_X11_negated N kE (hp X C M T) (some 35)).bind (fun r => l_X11_both_5 N kE N r.2 (some 35) r.1) = some (v, A1) → f_X11_both N kE (hp X C M T) (some 35) = zc (some (v, A1)) := fun v A1 e => by
    unfold f_X11_both b_X11_both
    rw [if_pos io_35, e]
  unfold pBoth
  cases hp' : pSeq tp 320 5 (pNeg tp E) τ with
  | inl e =>
    rw [show 300 + 20 = 320 from rfl, hp'] at hh
    obtain ⟨M', k1, k2, k3⟩ := hh
    exact ⟨M', (un _ _ k1).trans (zc_0 _), k2, k3⟩
  | inr p =>
    rw [show 300 + 20 = 320 from rfl, hp'] at hh
    obtain ⟨M', k1, k2, k3⟩ := hh
    exact ⟨M', (un _ _ k1).trans (zc_1 _), k2, k3⟩
end RME
