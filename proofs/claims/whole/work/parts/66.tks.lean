/-! the text taken apart: the class looks a word up, takes a step -/
section TKS
variable {X : XS} {C : CS} {M : MS} {T : TS} {tp : List Nat}
section TKSA
variable {A A1 : LH} {q x : Option Nat} {n v1 v2 v3 v4 c p w : Int32} {N : Nat} {k : Option Nat → Int32 → Int32 → Int32 → Int32 → Option Int32}
theorem ko_e (h1 : s_len (some 3) = some n) (h2 : n ≤ v4) : b_X7_kindOfWord_14 N A k q v1 v2 v3 v4 = some 2 := by
  unfold b_X7_kindOfWord_14
  (repeat (first | with_reducible rfl | refine (bnd_eq (by first | with_reducible assumption)).trans ?_ | refine (if_pos (by first | with_reducible assumption | with_reducible rfl | decide | (dsimp only; first | with_reducible assumption | with_reducible rfl | decide))).trans ?_ | refine (if_neg (by first | with_reducible assumption | decide | (dsimp only; first | with_reducible assumption | decide))).trans ?_))
theorem ko_b0 (h1 : s_len (some 3) = some n) (h2 : ¬ n ≤ v4) (h3 : s_at (some 3) v4 = some c) (h4 : c = 32) (h5 : v3 = 0) (h6 : gI A q 7 3 = some p) : b_X7_kindOfWord_14 N A k q v1 v2 v3 v4 = k q (v1 + 1) p 1 (v4 + 1) := by
  unfold b_X7_kindOfWord_14 b_X7_kindOfWord_83
  (repeat (first | with_reducible rfl | refine (bnd_eq (by first | with_reducible assumption)).trans ?_ | refine (if_pos (by first | with_reducible assumption | with_reducible rfl | decide | (dsimp only; first | with_reducible assumption | with_reducible rfl | decide))).trans ?_ | refine (if_neg (by first | with_reducible assumption | decide | (dsimp only; first | with_reducible assumption | decide))).trans ?_))
theorem ko_bn (h1 : s_len (some 3) = some n) (h2 : ¬ n ≤ v4) (h3 : s_at (some 3) v4 = some c) (h4 : c = 32) (h5 : ¬ v3 = 0) (h6 : gI A q 7 3 = some p) (h7 : gI A q 7 4 = some w) (h8 : ¬ v2 = w) : b_X7_kindOfWord_14 N A k q v1 v2 v3 v4 = k q (v1 + 1) p 1 (v4 + 1) := by
  unfold b_X7_kindOfWord_14 b_X7_kindOfWord_83
  (repeat (first | with_reducible rfl | refine (bnd_eq (by first | with_reducible assumption)).trans ?_ | refine (if_pos (by first | with_reducible assumption | with_reducible rfl | decide | (dsimp only; first | with_reducible assumption | with_reducible rfl | decide))).trans ?_ | refine (if_neg (by first | with_reducible assumption | decide | (dsimp only; first | with_reducible assumption | decide))).trans ?_))
theorem ko_bt (h1 : s_len (some 3) = some n) (h2 : ¬ n ≤ v4) (h3 : s_at (some 3) v4 = some c) (h4 : c = 32) (h5 : ¬ v3 = 0) (h7 : gI A q 7 4 = some w) (h8 : v2 = w) : b_X7_kindOfWord_14 N A k q v1 v2 v3 v4 = some v1 := by
  unfold b_X7_kindOfWord_14 b_X7_kindOfWord_83
  (repeat (first | with_reducible rfl | refine (bnd_eq (by first | with_reducible assumption)).trans ?_ | refine (if_pos (by first | with_reducible assumption | with_reducible rfl | decide | (dsimp only; first | with_reducible assumption | with_reducible rfl | decide))).trans ?_ | refine (if_neg (by first | with_reducible assumption | decide | (dsimp only; first | with_reducible assumption | decide))).trans ?_))
theorem ko_l0 (h1 : s_len (some 3) = some n) (h2 : ¬ n ≤ v4) (h3 : s_at (some 3) v4 = some c) (h4 : ¬ c = 32) (h5 : v3 = 0) : b_X7_kindOfWord_14 N A k q v1 v2 v3 v4 = k q v1 (v2 + 1) 0 (v4 + 1) := by
  unfold b_X7_kindOfWord_14 b_X7_kindOfWord_83
  (repeat (first | with_reducible rfl | refine (bnd_eq (by first | with_reducible assumption)).trans ?_ | refine (if_pos (by first | with_reducible assumption | with_reducible rfl | decide | (dsimp only; first | with_reducible assumption | with_reducible rfl | decide))).trans ?_ | refine (if_neg (by first | with_reducible assumption | decide | (dsimp only; first | with_reducible assumption | decide))).trans ?_))
theorem ko_lt (h1 : s_len (some 3) = some n) (h2 : ¬ n ≤ v4) (h3 : s_at (some 3) v4 = some c) (h4 : ¬ c = 32) (h5 : ¬ v3 = 0) (h6 : gR A q 7 0 = some x) (h7 : f_X6_at A x v2 = some w) (h8 : w = c) : b_X7_kindOfWord_14 N A k q v1 v2 v3 v4 = k q v1 (v2 + 1) 1 (v4 + 1) := by
  unfold b_X7_kindOfWord_14 b_X7_kindOfWord_83
  (repeat (first | with_reducible rfl | refine (bnd_eq (by first | with_reducible assumption)).trans ?_ | refine (if_pos (by first | with_reducible assumption | with_reducible rfl | decide | (dsimp only; first | with_reducible assumption | with_reducible rfl | decide))).trans ?_ | refine (if_neg (by first | with_reducible assumption | decide | (dsimp only; first | with_reducible assumption | decide))).trans ?_))
theorem ko_lf (h1 : s_len (some 3) = some n) (h2 : ¬ n ≤ v4) (h3 : s_at (some 3) v4 = some c) (h4 : ¬ c = 32) (h5 : ¬ v3 = 0) (h6 : gR A q 7 0 = some x) (h7 : f_X6_at A x v2 = some w) (h8 : ¬ w = c) : b_X7_kindOfWord_14 N A k q v1 v2 v3 v4 = k q v1 (v2 + 1) 0 (v4 + 1) := by
  unfold b_X7_kindOfWord_14 b_X7_kindOfWord_83
  (repeat (first | with_reducible rfl | refine (bnd_eq (by first | with_reducible assumption)).trans ?_ | refine (if_pos (by first | with_reducible assumption | with_reducible rfl | decide | (dsimp only; first | with_reducible assumption | with_reducible rfl | decide))).trans ?_ | refine (if_neg (by first | with_reducible assumption | decide | (dsimp only; first | with_reducible assumption | decide))).trans ?_))
end TKSA
theorem wtx_len : wTx.length = 120 := rfl
theorem wtx_at : ∀ i : Fin 120, s_at (some 3) (nI i.val) = some (nI (wTx.getD i.val 0)) ∧ (wTx.getD i.val 0 = 32 ∨ lL (wTx.getD i.val 0) = true) := by decide
theorem wtx_s {i c : Nat} (h : wTx[i]? = some c) : i < 120 ∧ s_at (some 3) (nI i) = some (nI c) ∧ (c = 32 ∨ lL c = true) := by
  have hl : i < 120 := at_lt h
  have := wtx_at ⟨i, hl⟩
  have e : wTx.getD i 0 = c := by rw [List.getD_eq_getElem?_getD, h]; rfl
  rw [e] at this
  exact ⟨hl, this.1, this.2⟩
/-- what is alike so far -/
def krel (w : List Nat) (p : Nat) (r : Option (List Nat)) (v2 v3 : Int32) : Prop := (v3 = 0 ∧ r = none) ∨ ∃ k, k ≤ w.length ∧ v3 = 1 ∧ v2 = nI (p + k) ∧ r = some (w.drop k)
theorem lL_lt {c : Nat} (h : lL c = true) : c < 256 ∧ c ≠ 32 := by
  have := of_decide_eq_true (show decide (97 ≤ c ∧ c ≤ 122) = true from h)
  omega
theorem tw_at {p k : Nat} (h : k < ((tp.drop p).takeWhile lL).length) : tp[p + k]? = ((tp.drop p).takeWhile lL)[k]? := by
  have e := List.takeWhile_append_dropWhile (p := lL) (l := tp.drop p)
  rw [← List.getElem?_drop]
  conv => lhs; rw [← e]
  rw [List.getElem?_append_left h]
theorem k_kind (N : Nat) {p : Nat} (h : TP tp C) (h3 : C.1 3 = nI p) (hp' : p ≤ tp.length) (h4 : C.1 4 = nI (p + ((tp.drop p).takeWhile lL).length)) : ∀ (t : List Nat) (i m f : Nat) (r : Option (List Nat)) (v2 v3 : Int32), wTx.drop i = t → i ≤ 120 → krel ((tp.drop p).takeWhile lL) p r v2 v3 → t.length < m → l_X7_kindOfWord_14 N (hp X C M T) m (some 12) (nI f) v2 v3 (nI i) = some (nI (kw ((tp.drop p).takeWhile lL) t f r)) := by
  have hw : p + ((tp.drop p).takeWhile lL).length ≤ tp.length := spn_le hp'
  have h6 := h.2.1
  have g3 : gI (hp X C M T) (some 12) 7 3 = some (nI p) := gi_12_3.trans (congrArg some h3)
  have g4 : gI (hp X C M T) (some 12) 7 4 = some (nI (p + ((tp.drop p).takeWhile lL).length)) := gi_12_4.trans (congrArg some h4)
  have sl : s_len (some 3) = some (nI 120) := rfl
  intro t
  induction t with
  | nil =>
    intro i m f r v2 v3 ht hi hr hm
    obtain ⟨m', rfl⟩ : ∃ m', m = m' + 1 := ⟨m - 1, by omega⟩
    have : 120 ≤ i := by
      have := congrArg List.length ht
      rw [List.length_drop] at this
      rw [wtx_len] at this
      simp at this
      omega
    show b_X7_kindOfWord_14 N _ _ _ _ _ _ _ = some (nI 2)
    rw [nI_2]
    exact ko_e sl (nI_le this (by omega))
  | cons c t ih =>
    intro i m f r v2 v3 ht hi hr hm
    obtain ⟨m', rfl⟩ : ∃ m', m = m' + 1 := ⟨m - 1, by omega⟩
    have hc : wTx[i]? = some c := by
      have := congrArg (fun l => l[0]?) ht
      simpa using this
    have ht' : wTx.drop (i + 1) = t := by
      have := dr_s hc
      rw [ht] at this
      exact (List.cons.inj this).2.symm
    obtain ⟨hl, hs, hcl⟩ := wtx_s hc
    have hnl : ¬ nI 120 ≤ nI i := nI_ge hl (by decide)
    have hml : t.length < m' := by rw [List.length_cons] at hm; omega
    show b_X7_kindOfWord_14 N _ _ _ _ _ _ _ = _
    unfold kw
    by_cases h32 : c = 32
    · rw [if_pos h32]
      have hc32 : nI c = 32 := by rw [h32]; decide
      have nx := ih (i + 1) m' (f + 1) (some ((tp.drop p).takeWhile lL)) (nI p) 1 ht' hl (Or.inr ⟨0, Nat.zero_le _, rfl, rfl, rfl⟩) hml
      rw [← nI_1 f, ← nI_1 i] at nx
      rcases hr with ⟨r1, r2⟩ | ⟨k, r1, r2, r3, r4⟩
      · rw [r2, if_neg (fun z => nomatch z)]
        exact (ko_b0 sl hnl hs hc32 r1 g3).trans nx
      · have h1 : ¬ v3 = 0 := by rw [r2]; decide
        by_cases hk : k = ((tp.drop p).takeWhile lL).length
        · rw [r4, hk, List.drop_length, if_pos rfl]
          exact ko_bt sl hnl hs hc32 h1 g4 (by rw [r3, hk])
        · rw [r4, if_neg (fun z => hk (by
            have := congrArg List.length (Option.some.inj z)
            rw [List.length_drop] at this
            simp only [List.length_nil] at this
            omega))]
          exact (ko_bn sl hnl hs hc32 h1 g3 g4 (by rw [r3]; exact ne_nI (by omega) (by omega) (by omega))).trans nx
    · rw [if_neg h32]
      have hcL : lL c = true := by rcases hcl with z | z; exact absurd z h32; exact z
      have hcb := lL_lt hcL
      have hc32 : ¬ nI c = 32 := ne_nI (b := 32) h32 (by omega) (by decide)
      rcases hr with ⟨r1, r2⟩ | ⟨k, r1, r2, r3, r4⟩
      · have nx := ih (i + 1) m' f none (v2 + 1) 0 ht' hl (Or.inl ⟨rfl, rfl⟩) hml
        rw [← nI_1 i] at nx
        rw [r2]
        exact (ko_l0 sl hnl hs hc32 r1).trans nx
      · have h1 : ¬ v3 = 0 := by rw [r2]; decide
        have nx0 := ih (i + 1) m' f none (v2 + 1) 0 ht' hl (Or.inl ⟨rfl, rfl⟩) hml
        rw [← nI_1 i] at nx0
        have ha := k_at (X := X) (M := M) (T := T) h (i := p + k) (by omega)
        by_cases hk : k < ((tp.drop p).takeWhile lL).length
        · have hx := tw_at (tp := tp) hk
          rw [List.getElem?_eq_getElem hk] at hx
          rw [sg_s hx] at ha
          have hxb := h.b hx
          have hd := List.drop_eq_getElem_cons hk
          rw [r4, hd]
          show _ = some (nI (kw _ t f (if _ = c then some _ else none)))
          by_cases hxc : ((tp.drop p).takeWhile lL)[k] = c
          · rw [if_pos hxc]
            have nx := ih (i + 1) m' f (some (((tp.drop p).takeWhile lL).drop (k + 1))) (v2 + 1) 1 ht' hl (Or.inr ⟨k + 1, hk, rfl, by rw [r3, nI_1]; rfl, rfl⟩) hml
            rw [← nI_1 i] at nx
            exact (ko_lt sl hnl hs hc32 h1 gr_12_0 (by rw [r3]; exact ha) (by rw [hxc])).trans nx
          · rw [if_neg hxc]
            exact (ko_lf sl hnl hs hc32 h1 gr_12_0 (by rw [r3]; exact ha) (ne_nI hxc (by omega) (by omega))).trans nx0
        · have hkk : k = ((tp.drop p).takeWhile lL).length := by omega
          rw [r4, hkk, List.drop_length]
          show _ = some (nI (kw _ t f none))
          refine (ko_lf sl hnl hs hc32 h1 gr_12_0 (by rw [r3]; exact ha) ?_).trans nx0
          rw [hkk]
          rcases spn_end (p := lL) (tp := tp) _ p rfl with e | ⟨c', e, hc'⟩
          · have e' : tp[p + ((tp.drop p).takeWhile lL).length]? = none := e
            rw [sg_n e']
            intro z
            have := nI_pos (n := c) (by omega)
            rw [← z] at this
            exact this (by decide)
          · have e' : tp[p + ((tp.drop p).takeWhile lL).length]? = some c' := e
            rw [sg_s e']
            have hcb' := h.b e'
            exact ne_nI (fun z => by rw [z, hcL] at hc'; cases hc') (by omega) (by omega)
theorem k_word (N : Nat) (hN : 130 ≤ N) {p : Nat} (h : TP tp C) (h3 : C.1 3 = nI p) (hp' : p ≤ tp.length) (h4 : C.1 4 = nI (p + ((tp.drop p).takeWhile lL).length)) : f_X7_kindOfWord N (hp X C M T) (some 12) = some (nI (kOf ((tp.drop p).takeWhile lL))) := by
  have g3 : gI (hp X C M T) (some 12) 7 3 = some (nI p) := gi_12_3.trans (congrArg some h3)
  have := k_kind (X := X) (M := M) (T := T) N h h3 hp' h4 wTx 0 N 300 (some ((tp.drop p).takeWhile lL)) (nI p) 1 rfl (by decide) (Or.inr ⟨0, Nat.zero_le _, rfl, rfl, rfl⟩) (by rw [wtx_len]; omega)
  rw [show nI 300 = 300 by decide, show nI 0 = 0 by decide] at this
  unfold f_X7_kindOfWord b_X7_kindOfWord
  rw [if_pos io_12, bnd_eq g3, this]
  rfl
theorem kw_2 (w : List Nat) : ∀ (t : List Nat) (f : Nat) (r : Option (List Nat)), kw w t f r = 2 ∨ f ≤ kw w t f r := by
  intro t
  induction t with
  | nil => intro f r; exact Or.inl rfl
  | cons c t ih =>
    intro f r
    unfold kw
    split
    · split
      · exact Or.inr (Nat.le_refl _)
      · rcases ih (f + 1) (some w) with h | h
        · exact Or.inl h
        · exact Or.inr (by omega)
    · exact ih _ _
theorem kOf_2 (w : List Nat) : kOf w = 2 ∨ 300 ≤ kOf w := kw_2 w wTx 300 (some w)
theorem kOf_1 (w : List Nat) : ¬ kOf w = 1 := fun z => by rcases kOf_2 w with h | h <;> omega
/-- the token at hand -/
def TK (C : CS) (τ : TOK) : Prop := C.1 1 = nI τ.1 ∧ (τ.1 = 1 → C.1 2 = nI τ.2.1) ∧ C.1 3 = nI τ.2.2.1 ∧ C.1 4 = nI τ.2.2.2
/-- nothing but the token changes -/
def CT (C C' : CS) : Prop := (∀ j, j = 0 ∨ 4 < j → C'.1 j = C.1 j) ∧ C'.2 = C.2
theorem CT.rf : CT C C := ⟨fun _ _ => rfl, rfl⟩
theorem CT.st {C' : CS} {k : Nat} {v : Int32} (h : CT C C') (h1 : 0 < k) (h2 : k ≤ 4) : CT C (c0 C' k v) := ⟨fun j hj => (c0_n (by omega)).trans (h.1 j hj), h.2⟩
theorem CT.tr {C' C2 : CS} (h : CT C C') (h2 : CT C' C2) : CT C C2 := ⟨fun j hj => (h2.1 j hj).trans (h.1 j hj), h2.2.trans h.2⟩
theorem TP.ct {C' : CS} (h : TP tp C) (h2 : CT C C') : TP tp C' := by
  refine ⟨?_, h.2⟩
  rw [h2.1 0 (Or.inl rfl), h2.2]; exact h.1
theorem k_44 (N : Nat) (hN : 700 ≤ N) {p : Nat} (h : TP tp C) (h4 : C.1 4 = nI p) (hp' : p ≤ tp.length) : ∃ C', b_X7_step_44 N (hp X C M T) (some 12) = some (hp X C' M T) ∧ TK C' (tokAt tp p) ∧ CT C C' := by
  have h6 := h.2.1
  have g4 : gI (hp X C M T) (some 12) 7 4 = some (nI p) := gi_12_4.trans (congrArg some h4)
  have p3 : pF (hp X C M T) (some 12) 7 3 (LI (nI p)) = some (hp X (c0 C 3 (nI p)) M T) := pi_12_3 _
  have h1 : TP tp (c0 C 3 (nI p)) := h.c0 (by decide)
  have h14 : (c0 C 3 (nI p)).1 4 = nI p := by rw [c0_n (by decide), h4]
  have g14 : gI (hp X (c0 C 3 (nI p)) M T) (some 12) 7 4 = some (nI p) := gi_12_4.trans (congrArg some h14)
  have ha := k_at (X := X) (M := M) (T := T) h1 (i := p) (by omega)
  have c1 : CT C (c0 C 3 (nI p)) := CT.rf.st (by decide) (by decide)
  unfold tokAt
  cases e : tp[p]? with
  | none =>
    rw [sg_n e] at ha
    refine ⟨c0 (c0 C 3 (nI p)) 1 0, sx_e N g4 p3 gr_12_0 g14 ha (pi_12_1 _), ⟨c0_s, (fun z => nomatch z), by rw [c0_n (by decide), c0_s], by rw [c0_n (by decide), h14]⟩, c1.st (by decide) (by decide)⟩
  | some c =>
    rw [sg_s e] at ha
    have hb := h.b e
    have hlt := at_lt e
    have hm1 : ¬ nI c = -1 := fun z => by
      have := nI_pos (n := c) (by omega)
      rw [z] at this
      exact this (by decide)
    show ∃ C', _ ∧ TK C' (if lL c = true then _ else if dL c = true then _ else _) ∧ _
    have il := isLt hb
    cases hl : lL c with
    | true =>
      rw [if_pos rfl]
      rw [hl] at il
      have hsp : p + ((tp.drop p).takeWhile lL).length ≤ tp.length := spn_le hp'
      have kl := k_letters (X := X) (M := M) (T := T) N (spn lL tp p) p N (c0 C 3 (nI p)) h1 h14 hp' rfl (by have : spn lL tp p = ((tp.drop p).takeWhile lL).length := rfl; omega)
      have kl' : f_X7_takeLetters N (hp X (c0 C 3 (nI p)) M T) (some 12) = some (hp X (c0 (c0 C 3 (nI p)) 4 (nI (p + spn lL tp p))) M T) := by
        unfold f_X7_takeLetters b_X7_takeLetters
        rw [if_pos io_12]; exact kl
      have kk := k_word (X := X) (M := M) (T := T) (C := c0 (c0 C 3 (nI p)) 4 (nI (p + spn lL tp p))) N (by omega) (h1.c0 (by decide)) (p := p) (by rw [c0_n (by decide), c0_s]) hp' c0_s
      exact ⟨_, sx_l N g4 p3 gr_12_0 g14 ha hm1 il kl' kk (pi_12_1 _), ⟨c0_s, fun z => absurd z (kOf_1 _), by rw [c0_n (by decide), c0_n (by decide), c0_s], by rw [c0_n (by decide), c0_s]⟩, (c1.st (by decide) (by decide)).st (by decide) (by decide)⟩
    | false =>
      rw [if_neg (by decide)]
      rw [hl] at il
      have id' := isDg hb
      cases hd : dL c with
      | true =>
        rw [if_pos rfl]
        rw [hd] at id'
        have hsp : p + spn dL tp p ≤ tp.length := spn_le hp'
        have h0 : dg3 tp p p = 0 := by unfold dg3; rw [Nat.sub_self]; rfl
        have kd := k_digits (X := X) (M := M) (T := T) N (spn dL tp p) p N (c0 (c0 C 3 (nI p)) 2 0) (h1.c0 (by decide)) (by rw [c0_n (by decide), h14]) (p := p) (by rw [c0_n (by decide), c0_s]) (by rw [c0_s, h0]; rfl) (Nat.le_refl _) hp' (by rw [Nat.sub_self]; intro x hx; cases hx) rfl (by omega)
        rw [c0c0] at kd
        have kd' : f_X7_takeDigits N (hp X (c0 C 3 (nI p)) M T) (some 12) = some (hp X (c0 (c0 (c0 C 3 (nI p)) 2 (nI (dg3 tp p (p + spn dL tp p)))) 4 (nI (p + spn dL tp p))) M T) := by
          unfold f_X7_takeDigits b_X7_takeDigits
          rw [if_pos io_12, bnd_eq (pi_12_2 _)]; exact kd
        have gx4 : gI (hp X (c0 (c0 (c0 C 3 (nI p)) 2 (nI (dg3 tp p (p + spn dL tp p)))) 4 (nI (p + spn dL tp p))) M T) (some 12) 7 4 = some (nI (p + spn dL tp p)) := by rw [gi_12_4, c0_s]
        have gx3 : gI (hp X (c0 (c0 (c0 C 3 (nI p)) 2 (nI (dg3 tp p (p + spn dL tp p)))) 4 (nI (p + spn dL tp p))) M T) (some 12) 7 3 = some (nI p) := by rw [gi_12_3, c0_n (by decide), c0_n (by decide), c0_s]
        have hsb : nI (p + spn dL tp p) - nI p = nI (spn dL tp p) := by rw [nI_sub' (by omega), Nat.add_sub_cancel_left]
        have hdv : dg3 tp p (p + spn dL tp p) = dVal (((tp.drop p).takeWhile dL).take 3) := by
          unfold dg3
          rw [Nat.add_sub_cancel_left]
          congr 2
          exact (List.prefix_iff_eq_take.mp (List.takeWhile_prefix dL)).symm
        by_cases h3 : spn dL tp p ≤ 3
        · rw [if_pos h3]
          refine ⟨_, sx_d1 N g4 p3 gr_12_0 g14 ha hm1 il id' kd' gx4 gx3 (by rw [hsb, ← nI_3]; exact nI_le h3 (by decide)) (pi_12_1 _), ⟨c0_s, fun _ => ?_, ?_, ?_⟩, ((c1.st (by decide) (by decide)).st (by decide) (by decide)).st (by decide) (by decide)⟩
          · rw [c0_n (by decide), c0_n (by decide), c0_s, hdv]
          · rw [c0_n (by decide), c0_n (by decide), c0_n (by decide), c0_s]
          · rw [c0_n (by decide), c0_s]
        · rw [if_neg h3]
          refine ⟨_, sx_d2 N g4 p3 gr_12_0 g14 ha hm1 il id' kd' gx4 gx3 (by rw [hsb, ← nI_3]; exact nI_ge (by omega) (by omega)) (pi_12_1 _), ⟨c0_s, (fun z => nomatch z), ?_, ?_⟩, ((c1.st (by decide) (by decide)).st (by decide) (by decide)).st (by decide) (by decide)⟩
          · rw [c0_n (by decide), c0_n (by decide), c0_n (by decide), c0_s]
          · rw [c0_n (by decide), c0_s]
      | false =>
        rw [if_neg (by decide)]
        rw [hd] at id'
        have ig := isSg hb
        cases hg : gL c with
        | true =>
          rw [if_pos rfl]
          rw [hg] at ig
          refine ⟨_, sx_g N g4 p3 gr_12_0 g14 ha hm1 il id' ig (pi_12_1 _) (v := nI p) (by rw [gi_12_4, c0_n (by decide), h14]) (by rw [nI_1]; exact pi_12_4 _), ⟨by rw [c0_n (by decide), c0_s], (fun z => ?_), by rw [c0_n (by decide), c0_n (by decide), c0_s], c0_s⟩, (c1.st (by decide) (by decide)).st (by decide) (by decide)⟩
          have z' : c = 1 := z
          rw [z'] at hg; cases hg
        | false =>
          rw [if_neg (by decide)]
          rw [hg] at ig
          exact ⟨_, sx_w N g4 p3 gr_12_0 g14 ha hm1 il id' ig (pi_12_1 _) (v := nI p) (by rw [gi_12_4, c0_n (by decide), h14]) (by rw [nI_1]; exact pi_12_4 _), ⟨by rw [c0_n (by decide), c0_s]; rfl, (fun z => nomatch z), by rw [c0_n (by decide), c0_n (by decide), c0_s], c0_s⟩, (c1.st (by decide) (by decide)).st (by decide) (by decide)⟩
theorem k_blanks (N : Nat) (hN : 700 ≤ N) : ∀ (n i m : Nat) (C : CS), TP tp C → C.1 4 = nI i → i ≤ tp.length → spn bL tp i = n → n < m → ∃ C', l_X7_step_0 N m (hp X C M T) (some 12) = some (hp X C' M T) ∧ TK C' (tokAt tp (i + n)) ∧ CT C C' := by
  intro n
  induction n with
  | zero =>
    intro i m C h h4 hl hs hm
    obtain ⟨m', rfl⟩ : ∃ m', m = m' + 1 := ⟨m - 1, by omega⟩
    have h6 := h.2.1
    have g4 : gI (hp X C M T) (some 12) 7 4 = some (nI i) := gi_12_4.trans (congrArg some h4)
    have gn : gI (hp X C M T) (some 9) 6 1 = some (nI tp.length) := gi_9_1.trans (congrArg some h.1.1)
    obtain ⟨C', k1, k2, k3⟩ := k_44 (X := X) (M := M) (T := T) N hN h h4 hl
    refine ⟨C', ?_, k2, k3⟩
    show b_X7_step_0 N _ _ _ = _
    rcases spn_0 hs with e | ⟨c, e, hc⟩
    · exact (sb_e N g4 gr_12_0 gn (nI_le (List.getElem?_eq_none_iff.mp e) (by omega))).trans k1
    · have ha := k_at (X := X) (M := M) (T := T) h (i := i) (by omega)
      rw [sg_s e] at ha
      have hb := isBl (h.b e)
      rw [hc] at hb
      exact (sb_f N g4 gr_12_0 gn (nI_ge (at_lt e) (by omega)) ha hb rfl).trans k1
  | succ n ih =>
    intro i m C h h4 hl hs hm
    obtain ⟨m', rfl⟩ : ∃ m', m = m' + 1 := ⟨m - 1, by omega⟩
    have h6 := h.2.1
    have g4 : gI (hp X C M T) (some 12) 7 4 = some (nI i) := gi_12_4.trans (congrArg some h4)
    have gn : gI (hp X C M T) (some 9) 6 1 = some (nI tp.length) := gi_9_1.trans (congrArg some h.1.1)
    obtain ⟨c, e, hc, hs'⟩ := spn_1 hs
    have ha := k_at (X := X) (M := M) (T := T) h (i := i) (by omega)
    rw [sg_s e] at ha
    have hb := isBl (h.b e)
    rw [hc] at hb
    have hlt := at_lt e
    obtain ⟨C', k1, k2, k3⟩ := ih (i + 1) m' (c0 C 4 (nI (i + 1))) (h.c0 (by decide)) c0_s (by omega) hs' (by omega)
    rw [show i + 1 + n = i + (n + 1) by omega] at k2
    refine ⟨C', ?_, k2, (CT.rf.st (by decide) (by decide)).tr k3⟩
    show b_X7_step_0 N _ _ _ = _
    exact (sb_t N g4 gr_12_0 gn (nI_ge (at_lt e) (by omega)) ha hb (A1 := hp X (c0 C 4 (nI (i + 1))) M T) (by rw [nI_1]; exact pi_12_4 _)).trans k1
theorem k_tk (N : Nat) (hN : 700 ≤ N) {i : Nat} (h : TP tp C) (h4 : C.1 4 = nI i) (hi : i ≤ tp.length) : ∃ C', f_X7_step N (hp X C M T) (some 12) = some (hp X C' M T) ∧ TK C' (tok tp i) ∧ CT C C' := by
  have h6 := h.2.1
  have hsp : i + spn bL tp i ≤ tp.length := spn_le hi
  obtain ⟨C', k1, k2, k3⟩ := k_blanks (X := X) (M := M) (T := T) N hN (spn bL tp i) i N C h h4 hi rfl (by omega)
  refine ⟨C', ?_, k2, k3⟩
  unfold f_X7_step b_X7_step
  rw [if_pos io_12]; exact k1
end TKS
