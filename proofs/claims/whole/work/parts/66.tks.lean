/-! the text taken apart: the class looks a word up, takes a step -/
section TKS
variable {X : XS} {C : CS} {M : MS} {T : TS} {tp : List Nat}
section TKSA
variable {A A1 : LH} {q x : Option Nat} {n v1 v2 v3 v4 v5 v6 c w : Int32} {N : Nat} {k : Option Nat → Int32 → Int32 → Int32 → Int32 → Int32 → Int32 → Option Int32}
theorem ko_e (h1 : s_len (some 3) = some n) (h2 : n ≤ v6) : b_X7_kindOfWord_13 N A k q v1 v2 v3 v4 v5 v6 = some 2 := by
  unfold b_X7_kindOfWord_13
  rw [bnd_eq h1, if_pos h2]
theorem ko_b0 (h1 : s_len (some 3) = some n) (h2 : ¬ n ≤ v6) (h3 : s_at (some 3) v6 = some c) (h4 : c = 32) (h5 : v5 = 0) : b_X7_kindOfWord_13 N A k q v1 v2 v3 v4 v5 v6 = k q v1 v2 (v3 + 1) v1 1 (v6 + 1) := by
  unfold b_X7_kindOfWord_13 b_X7_kindOfWord_84
  rw [bnd_eq h1, if_neg h2, bnd_eq h3, if_pos h4, if_pos h5]
theorem ko_bn (h1 : s_len (some 3) = some n) (h2 : ¬ n ≤ v6) (h3 : s_at (some 3) v6 = some c) (h4 : c = 32) (h5 : ¬ v5 = 0) (h8 : ¬ v4 = v2) : b_X7_kindOfWord_13 N A k q v1 v2 v3 v4 v5 v6 = k q v1 v2 (v3 + 1) v1 1 (v6 + 1) := by
  unfold b_X7_kindOfWord_13 b_X7_kindOfWord_84
  rw [bnd_eq h1, if_neg h2, bnd_eq h3, if_pos h4, if_neg h5, if_neg h8]
theorem ko_bt (h1 : s_len (some 3) = some n) (h2 : ¬ n ≤ v6) (h3 : s_at (some 3) v6 = some c) (h4 : c = 32) (h5 : ¬ v5 = 0) (h8 : v4 = v2) : b_X7_kindOfWord_13 N A k q v1 v2 v3 v4 v5 v6 = some v3 := by
  unfold b_X7_kindOfWord_13 b_X7_kindOfWord_84
  rw [bnd_eq h1, if_neg h2, bnd_eq h3, if_pos h4, if_neg h5, if_pos h8]
theorem ko_l0 (h1 : s_len (some 3) = some n) (h2 : ¬ n ≤ v6) (h3 : s_at (some 3) v6 = some c) (h4 : ¬ c = 32) (h5 : v5 = 0) : b_X7_kindOfWord_13 N A k q v1 v2 v3 v4 v5 v6 = k q v1 v2 v3 (v4 + 1) 0 (v6 + 1) := by
  unfold b_X7_kindOfWord_13
  rw [bnd_eq h1, if_neg h2, bnd_eq h3, if_neg h4, if_pos h5]
theorem ko_lt (h1 : s_len (some 3) = some n) (h2 : ¬ n ≤ v6) (h3 : s_at (some 3) v6 = some c) (h4 : ¬ c = 32) (h5 : ¬ v5 = 0) (h6 : gR A q 7 0 = some x) (h7 : f_X6_at A x v4 = some w) (h8 : w = c) : b_X7_kindOfWord_13 N A k q v1 v2 v3 v4 v5 v6 = k q v1 v2 v3 (v4 + 1) 1 (v6 + 1) := by
  unfold b_X7_kindOfWord_13
  rw [bnd_eq h1, if_neg h2, bnd_eq h3, if_neg h4, if_neg h5, bnd_eq h6, bnd_eq h7, if_pos h8]
theorem ko_lf (h1 : s_len (some 3) = some n) (h2 : ¬ n ≤ v6) (h3 : s_at (some 3) v6 = some c) (h4 : ¬ c = 32) (h5 : ¬ v5 = 0) (h6 : gR A q 7 0 = some x) (h7 : f_X6_at A x v4 = some w) (h8 : ¬ w = c) : b_X7_kindOfWord_13 N A k q v1 v2 v3 v4 v5 v6 = k q v1 v2 v3 (v4 + 1) 0 (v6 + 1) := by
  unfold b_X7_kindOfWord_13
  rw [bnd_eq h1, if_neg h2, bnd_eq h3, if_neg h4, if_neg h5, bnd_eq h6, bnd_eq h7, if_neg h8]
end TKSA
theorem wtx_len : wTx.length = 120 := rfl
theorem wtx_at : ∀ i : Fin 120, s_at (some 3) (nI i.val) = some (nI (wTx.getD i.val 0)) ∧ (wTx.getD i.val 0 = 32 ∨ lL (wTx.getD i.val 0) = true) := by decide
theorem wtx_s {i c : Nat} (h : wTx[i]? = some c) : i < 120 ∧ s_at (some 3) (nI i) = some (nI c) ∧ (c = 32 ∨ lL c = true) := by
  have hl : i < 120 := at_lt h
  have := wtx_at ⟨i, hl⟩
  have e : wTx.getD i 0 = c := by rw [List.getD_eq_getElem?_getD, h]; rfl
  rw [e] at this
  exact ⟨hl, this.1, this.2⟩
/-- what is alike so far -/
def krel (w : List Nat) (p : Nat) (r : Option (List Nat)) (v2 v3 : Int32) : Prop := (v3 = 0 ∧ r = none) ∨ ∃ k, k ≤ w.length ∧ v3 = 1 ∧ v2 = nI (p + k) ∧ r = some (w.drop k)
theorem lL_lt {c : Nat} (h : lL c = true) : c < 256 ∧ c ≠ 32 := by
  have := of_decide_eq_true (show decide (97 ≤ c ∧ c ≤ 122) = true from h)
  omega
theorem tw_at {p k : Nat} (h : k < ((tp.drop p).takeWhile lL).length) : tp[p + k]? = ((tp.drop p).takeWhile lL)[k]? := by
  have e := List.takeWhile_append_dropWhile (p := lL) (l := tp.drop p)
  rw [← List.getElem?_drop]
  conv => lhs; rw [← e]
  rw [List.getElem?_append_left h]
theorem k_kind (N : Nat) {p : Nat} (h : TP tp C) (hp' : p ≤ tp.length) : ∀ (t : List Nat) (i m f : Nat) (r : Option (List Nat)) (v2 v3 : Int32), wTx.drop i = t → i ≤ 120 → krel ((tp.drop p).takeWhile lL) p r v2 v3 → t.length < m → l_X7_kindOfWord_13 N (hp X C M T) m (some 12) (nI p) (nI (p + ((tp.drop p).takeWhile lL).length)) (nI f) v2 v3 (nI i) = some (nI (kw ((tp.drop p).takeWhile lL) t f r)) := by
  have hw : p + ((tp.drop p).takeWhile lL).length ≤ tp.length := spn_le hp'
  have h6 := h.2.1
  have sl : s_len (some 3) = some (nI 120) := rfl
  intro t
  induction t with
  | nil =>
    intro i m f r v2 v3 ht hi hr hm
    obtain ⟨m', rfl⟩ : ∃ m', m = m' + 1 := ⟨m - 1, by omega⟩
    have : 120 ≤ i := by
      have := congrArg List.length ht
      rw [List.length_drop] at this
      rw [wtx_len] at this
      simp at this
      omega
    show b_X7_kindOfWord_13 N _ _ _ _ _ _ _ _ _ = some (nI 2)
    rw [nI_2]
    exact ko_e sl (nI_le this (by omega))
  | cons c t ih =>
    intro i m f r v2 v3 ht hi hr hm
    obtain ⟨m', rfl⟩ : ∃ m', m = m' + 1 := ⟨m - 1, by omega⟩
    have hc : wTx[i]? = some c := by
      have := congrArg (fun l => l[0]?) ht
      simpa using this
    have ht' : wTx.drop (i + 1) = t := by
      have := dr_s hc
      rw [ht] at this
      exact (List.cons.inj this).2.symm
    obtain ⟨hl, hs, hcl⟩ := wtx_s hc
    have hnl : ¬ nI 120 ≤ nI i := nI_ge hl (by decide)
    have hml : t.length < m' := by rw [List.length_cons] at hm; omega
    show b_X7_kindOfWord_13 N _ _ _ _ _ _ _ _ _ = _
    unfold kw
    by_cases h32 : c = 32
    · rw [if_pos h32]
      have hc32 : nI c = 32 := by rw [h32]; decide
      have nx := ih (i + 1) m' (f + 1) (some ((tp.drop p).takeWhile lL)) (nI p) 1 ht' hl (Or.inr ⟨0, Nat.zero_le _, rfl, rfl, rfl⟩) hml
      rw [← nI_1 f, ← nI_1 i] at nx
      rcases hr with ⟨r1, r2⟩ | ⟨k, r1, r2, r3, r4⟩
      · rw [r2, if_neg (fun z => nomatch z)]
        exact (ko_b0 sl hnl hs hc32 r1).trans nx
      · have h1 : ¬ v3 = 0 := by rw [r2]; decide
        by_cases hk : k = ((tp.drop p).takeWhile lL).length
        · rw [r4, hk, List.drop_length, if_pos rfl]
          exact ko_bt sl hnl hs hc32 h1 (by rw [r3, hk])
        · rw [r4, if_neg (fun z => hk (by
            have := congrArg List.length (Option.some.inj z)
            rw [List.length_drop] at this
            simp only [List.length_nil] at this
            omega))]
          exact (ko_bn sl hnl hs hc32 h1 (by rw [r3]; exact ne_nI (by omega) (by omega) (by omega))).trans nx
    · rw [if_neg h32]
      have hcL : lL c = true := by rcases hcl with z | z; exact absurd z h32; exact z
      have hcb := lL_lt hcL
      have hc32 : ¬ nI c = 32 := ne_nI (b := 32) h32 (by omega) (by decide)
      rcases hr with ⟨r1, r2⟩ | ⟨k, r1, r2, r3, r4⟩
      · have nx := ih (i + 1) m' f none (v2 + 1) 0 ht' hl (Or.inl ⟨rfl, rfl⟩) hml
        rw [← nI_1 i] at nx
        rw [r2]
        exact (ko_l0 sl hnl hs hc32 r1).trans nx
      · have h1 : ¬ v3 = 0 := by rw [r2]; decide
        have nx0 := ih (i + 1) m' f none (v2 + 1) 0 ht' hl (Or.inl ⟨rfl, rfl⟩) hml
        rw [← nI_1 i] at nx0
        have ha := k_at (X := X) (M := M) (T := T) h (i := p + k) (by omega)
        by_cases hk : k < ((tp.drop p).takeWhile lL).length
        · have hx := tw_at (tp := tp) hk
          rw [List.getElem?_eq_getElem hk] at hx
          rw [sg_s hx] at ha
          have hxb := h.b hx
          have hd := List.drop_eq_getElem_cons hk
          rw [r4, hd]
          show _ = some (nI (kw _ t f (if _ = c then some _ else none)))
          by_cases hxc : ((tp.drop p).takeWhile lL)[k] = c
          · rw [if_pos hxc]
            have nx := ih (i + 1) m' f (some (((tp.drop p).takeWhile lL).drop (k + 1))) (v2 + 1) 1 ht' hl (Or.inr ⟨k + 1, hk, rfl, by rw [r3, nI_1]; rfl, rfl⟩) hml
            rw [← nI_1 i] at nx
            exact (ko_lt sl hnl hs hc32 h1 gr_12_0 (by rw [r3]; exact ha) (by rw [hxc])).trans nx
          · rw [if_neg hxc]
            exact (ko_lf sl hnl hs hc32 h1 gr_12_0 (by rw [r3]; exact ha) (ne_nI hxc (by omega) (by omega))).trans nx0
        · have hkk : k = ((tp.drop p).takeWhile lL).length := by omega
          rw [r4, hkk, List.drop_length]
          show _ = some (nI (kw _ t f none))
          refine (ko_lf sl hnl hs hc32 h1 gr_12_0 (by rw [r3]; exact ha) ?_).trans nx0
          rw [hkk]
          rcases spn_end (p := lL) (tp := tp) _ p rfl with e | ⟨c', e, hc'⟩
          · have e' : tp[p + ((tp.drop p).takeWhile lL).length]? = none := e
            rw [sg_n e']
            intro z
            have := nI_pos (n := c) (by omega)
            rw [← z] at this
            exact this (by decide)
          · have e' : tp[p + ((tp.drop p).takeWhile lL).length]? = some c' := e
            rw [sg_s e']
            have hcb' := h.b e'
            exact ne_nI (fun z => by rw [z, hcL] at hc'; cases hc') (by omega) (by omega)
theorem k_word (N : Nat) (hN : 130 ≤ N) {p : Nat} (h : TP tp C) (hp' : p ≤ tp.length) : f_X7_kindOfWord N (hp X C M T) (some 12) (nI p) (nI (p + spn lL tp p)) = some (nI (kOf ((tp.drop p).takeWhile lL))) := by
  have := k_kind (X := X) (M := M) (T := T) N h hp' wTx 0 N 300 (some ((tp.drop p).takeWhile lL)) (nI p) 1 rfl (by decide) (Or.inr ⟨0, Nat.zero_le _, rfl, rfl, rfl⟩) (by rw [wtx_len]; omega)
  rw [show nI 300 = 300 by decide, show nI 0 = 0 by decide] at this
  unfold f_X7_kindOfWord b_X7_kindOfWord
  rw [if_pos io_12]
  exact this
theorem kw_2 (w : List Nat) : ∀ (t : List Nat) (f : Nat) (r : Option (List Nat)), kw w t f r = 2 ∨ f ≤ kw w t f r := by
  intro t
  induction t with
  | nil => intro f r; exact Or.inl rfl
  | cons c t ih =>
    intro f r
    unfold kw
    split
    · split
      · exact Or.inr (Nat.le_refl _)
      · rcases ih (f + 1) (some w) with h | h
        · exact Or.inl h
        · exact Or.inr (by omega)
    · exact ih _ _
theorem kOf_2 (w : List Nat) : kOf w = 2 ∨ 300 ≤ kOf w := kw_2 w wTx 300 (some w)
theorem kOf_1 (w : List Nat) : ¬ kOf w = 1 := fun z => by rcases kOf_2 w with h | h <;> omega
/-- where the tokens end, the tokens -/
def tE (tp : List Nat) : Nat → Nat
  | 0 => 0
  | i + 1 => (tok tp (tE tp i)).2.2.2
def tI (tp : List Nat) (i : Nat) : TOK := tok tp (tE tp i)
/-- token i in the rows -/
def Rw (C : CS) (i : Nat) (τ : TOK) : Prop := C.2.1 8 i = nI τ.1 ∧ (τ.1 = 1 → C.2.1 9 i = nI τ.2.1) ∧ C.2.1 10 i = nI τ.2.2.1
/-- so many tokens in the rows -/
def TRw (tp : List Nat) (C : CS) (s : Nat) : Prop := C.1 31 = nI s ∧ ∀ i, i < s → Rw C i (tI tp i)
/-- all tokens in the rows -/
def TR (tp : List Nat) (C : CS) (n : Nat) : Prop := TRw tp C n ∧ 1 ≤ n ∧ n ≤ 601 ∧ tI tp (n - 1) = (0, 0, tp.length, tp.length)
/-- the token at hand -/
def TK (tp : List Nat) (C : CS) (τ : TOK) : Prop := C.1 1 = nI τ.1 ∧ (τ.1 = 1 → C.1 2 = nI τ.2.1) ∧ C.1 3 = nI τ.2.2.1 ∧ ∃ i n, TR tp C n ∧ i < n ∧ τ = tI tp i ∧ C.1 4 = nI (i + 1)
theorem TRw.fr {C' : CS} {s : Nat} (h : TRw tp C s) (h1 : C'.1 31 = C.1 31) (h2 : ∀ j, 8 ≤ j → C'.2.1 j = C.2.1 j) : TRw tp C' s := by
  refine ⟨h1.trans h.1, fun i hi => ?_⟩
  obtain ⟨a, b, c⟩ := h.2 i hi
  exact ⟨by rw [h2 8 (by decide)]; exact a, fun z => by rw [h2 9 (by decide)]; exact b z, by rw [h2 10 (by decide)]; exact c⟩
theorem TK.fr {C' : CS} {τ : TOK} (h : TK tp C τ) (h1 : ∀ j, j = 1 ∨ j = 2 ∨ j = 3 ∨ j = 4 ∨ j = 31 → C'.1 j = C.1 j) (h2 : ∀ j, 8 ≤ j → C'.2.1 j = C.2.1 j) : TK tp C' τ := by
  obtain ⟨a, b, c, i, n, ⟨d, d'⟩, e, f, g⟩ := h
  exact ⟨(h1 1 (by decide)).trans a, fun z => (h1 2 (by decide)).trans (b z), (h1 3 (by decide)).trans c, i, n, ⟨d.fr (h1 31 (by decide)) h2, d'⟩, e, f, (h1 4 (by decide)).trans g⟩
/-- nothing but the token changes -/
def CT (C C' : CS) : Prop := (∀ j, j = 0 ∨ 4 < j → C'.1 j = C.1 j) ∧ C'.2 = C.2
theorem CT.rf : CT C C := ⟨fun _ _ => rfl, rfl⟩
theorem CT.st {C' : CS} {k : Nat} {v : Int32} (h : CT C C') (h1 : 0 < k) (h2 : k ≤ 4) : CT C (c0 C' k v) := ⟨fun j hj => (c0_n (by omega)).trans (h.1 j hj), h.2⟩
theorem CT.tr {C' C2 : CS} (h : CT C C') (h2 : CT C' C2) : CT C C2 := ⟨fun j hj => (h2.1 j hj).trans (h.1 j hj), h2.2.trans h.2⟩
theorem TP.ct {C' : CS} (h : TP tp C) (h2 : CT C C') : TP tp C' := by
  refine ⟨?_, h.2⟩
  rw [h2.1 0 (Or.inl rfl), h2.2]; exact h.1
/-- nothing but the tokens' rows and what is at hand changes -/
def CA (C C' : CS) : Prop := (∀ j, j = 0 ∨ (4 < j ∧ j < 31) → C'.1 j = C.1 j) ∧ C'.2.2 = C.2.2 ∧ ∀ j, j < 8 → C'.2.1 j = C.2.1 j
theorem CA.tr {C' C2 : CS} (h : CA C C') (h2 : CA C' C2) : CA C C2 := ⟨fun j hj => (h2.1 j hj).trans (h.1 j hj), h2.2.1.trans h.2.1, fun j hj => (h2.2.2 j hj).trans (h.2.2 j hj)⟩
theorem CA.of {C' : CS} (h : CT C C') : CA C C' := ⟨fun j hj => h.1 j (by omega), by rw [h.2], fun j _ => by rw [h.2]⟩
theorem CA.rf : CA C C := CA.of CT.rf
theorem TP.ca {C' : CS} (h : TP tp C) (h2 : CA C C') : TP tp C' := by
  refine ⟨?_, h.2⟩
  rw [h2.1 0 (Or.inl rfl), h2.2.2 0 (by decide)]; exact h.1
/-- a step: the next token comes to hand -/
theorem k_st (N : Nat) {i n : Nat} (h : TR tp C n) (hi : i < n) (h4 : C.1 4 = nI i) : ∃ C', f_X7_step N (hp X C M T) (some 12) = some (hp X C' M T) ∧ TK tp C' (tI tp i) ∧ CT C C' := by
  obtain ⟨⟨h1, h2⟩, h3, h5, h6⟩ := h
  obtain ⟨a, b, c⟩ := h2 i hi
  have ct : CT C (c0 (c0 (c0 (c0 C 1 (C.2.1 8 i)) 2 (C.2.1 9 i)) 3 (C.2.1 10 i)) 4 (nI (i + 1))) := (((CT.rf.st (by decide) (by decide)).st (by decide) (by decide)).st (by decide) (by decide)).st (by decide) (by decide)
  refine ⟨c0 (c0 (c0 (c0 C 1 (C.2.1 8 i)) 2 (C.2.1 9 i)) 3 (C.2.1 10 i)) 4 (nI (i + 1)), ?_, ⟨?_, fun z => ?_, ?_, i, n, ⟨⟨?_, fun j hj => ?_⟩, h3, h5, h6⟩, hi, rfl, c0_s⟩, ct⟩
  · refine tst_t N io_12 (v := nI i) (gi_12_5.trans (congrArg some h4)) (nI_pos (by omega)) (n := nI n) (gi_12_4.trans (congrArg some h1)) (nI_ge hi (by omega)) gr_12_1 ln_13 (nI_ge (show i < 601 by omega) (by decide)) (ai_13 (by omega)) (pi_12_6 _) gr_12_2 ?_ (ai_14 (by omega)) (pi_12_7 _) gr_12_3 ?_ (ai_15 (by omega)) (pi_12_8 _) ?_ (by rw [nI_1]; exact pi_12_5 _)
    · rw [gi_12_5, c0_n (by decide), h4]
    · rw [gi_12_5, c0_n (by decide), c0_n (by decide), h4]
    · rw [gi_12_5, c0_n (by decide), c0_n (by decide), c0_n (by decide), h4]
  · rw [c0_n (by decide), c0_n (by decide), c0_n (by decide), c0_s, a]
  · rw [c0_n (by decide), c0_n (by decide), c0_s, b z]
  · rw [c0_n (by decide), c0_s, c]
  · rw [ct.1 31 (by decide), h1]
  · exact h2 j hj
/-- a step behind the last token: nothing changes -/
theorem k_sn (N : Nat) {n : Nat} (h : TR tp C n) (h4 : C.1 4 = nI n) : f_X7_step N (hp X C M T) (some 12) = some (hp X C M T) := by
  obtain ⟨⟨h1, h2⟩, h3, h5, h6⟩ := h
  exact tst_n N io_12 (v := nI n) (gi_12_5.trans (congrArg some h4)) (nI_pos (by omega)) (n := nI n) (gi_12_4.trans (congrArg some h1)) (nI_le (Nat.le_refl _) (by omega))
theorem k_tk (N : Nat) {τ : TOK} (h : TK tp C τ) : ∃ C', f_X7_step N (hp X C M T) (some 12) = some (hp X C' M T) ∧ TK tp C' (tok tp τ.2.2.2) ∧ CT C C' := by
  have h' := h
  obtain ⟨a, b, c, i, n, d, e, f, g⟩ := h
  by_cases hi : i + 1 < n
  · obtain ⟨C', k1, k2, k3⟩ := k_st (X := X) (M := M) (T := T) N d hi g
    refine ⟨C', k1, ?_, k3⟩
    rw [f]
    exact k2
  · have hn : i + 1 = n := by omega
    rw [hn] at g
    refine ⟨C, k_sn N d g, ?_, CT.rf⟩
    have f' : τ = (0, 0, tp.length, tp.length) := by
      rw [f, ← d.2.2.2, show n - 1 = i by omega]
    have e1 : tok tp τ.2.2.2 = τ := by
      rw [f']
      have en : tp[tp.length]? = none := List.getElem?_eq_none_iff.mpr (Nat.le_refl _)
      show tokAt tp (tp.length + spn bL tp tp.length) = _
      rw [spn_e en]
      show tokAt tp tp.length = _
      unfold tokAt
      rw [en]
    rw [e1]
    exact h'
/-- a token goes into the rows -/
theorem k_add {s : Nat} {τ : TOK} {a b c : Int32} (h : TRw tp C s) (hs : s < 601) (hτ : tI tp s = τ) (ha : a = nI τ.1) (hb : τ.1 = 1 → b = nI τ.2.1) (hc : c = nI τ.2.2.1) : ∃ C', f_X7_add (hp X C M T) (some 12) a b c = some (hp X C' M T) ∧ TRw tp C' (s + 1) ∧ CA C C' := by
  obtain ⟨h1, h2⟩ := h
  have hin : f_X10_isIn (nI s) (nI 601) = some 1 := isIn_n hs (by decide)
  have g31 : ∀ C' : CS, C'.1 = C.1 → gI (hp X C' M T) (some 12) 7 4 = some (nI s) := fun C' e => gi_12_4.trans (by rw [e, h1])
  refine ⟨c0 (ca (ca (ca C 8 (upd (C.2.1 8) s a)) 9 (upd (C.2.1 9) s b)) 10 (upd (C.2.1 10) s c)) 31 (nI (s + 1)), ?_, ⟨c0_s, fun i hi => ?_⟩, ?_⟩
  · exact tad_t io_12 (g31 C rfl) gr_12_1 ln_13 hin (si_13 hs) gr_12_2 (g31 _ rfl) (si_14 hs) gr_12_3 (g31 _ rfl) (si_15 hs) (g31 _ rfl) (by rw [nI_1]; exact pi_12_4 _)
  · show upd (C.2.1 8) s a i = nI (tI tp i).1 ∧ ((tI tp i).1 = 1 → upd (C.2.1 9) s b i = nI (tI tp i).2.1) ∧ upd (C.2.1 10) s c i = nI (tI tp i).2.2.1
    by_cases e : i = s
    · subst e
      rw [hτ]
      exact ⟨(if_pos rfl).trans ha, fun z => (if_pos rfl).trans (hb z), (if_pos rfl).trans hc⟩
    · obtain ⟨x, y, z⟩ := h2 i (by omega)
      exact ⟨(if_neg e).trans x, fun w => (if_neg e).trans (y w), (if_neg e).trans z⟩
  · refine ⟨fun j hj => (c0_n (by omega)).trans rfl, rfl, fun j hj => ?_⟩
    show up (up (up C.2.1 8 _) 9 _) 10 _ j = C.2.1 j
    rw [up_n _ _ (by omega), up_n _ _ (by omega), up_n _ _ (by omega)]
/-- the token that begins here goes into the rows -/
theorem k_tok (N : Nat) (hN : 700 ≤ N) {p s c : Nat} (h : TP tp C) (hr : TRw tp C s) (hs : s < 601) (e : tp[p]? = some c) (ht : tI tp s = tokAt tp p) : ∃ C', f_X7_addToken N (hp X C M T) (some 12) (nI p) = some (nI (tokAt tp p).2.2.2, hp X C' M T) ∧ TRw tp C' (s + 1) ∧ CA C C' := by
  have h6 := h.2.1
  have hlt := at_lt e
  have hb := h.b e
  have ha := k_at (X := X) (M := M) (T := T) h (i := p) (by omega)
  rw [sg_s e] at ha
  have il := isLt hb
  have hta : tokAt tp p = if lL c = true then (kOf ((tp.drop p).takeWhile lL), 0, p, p + spn lL tp p) else if dL c = true then (if spn dL tp p ≤ 3 then 1 else 2, dVal (((tp.drop p).takeWhile dL).take 3), p, p + spn dL tp p) else (if gL c = true then c else 2, 0, p, p + 1) := by
    unfold tokAt
    rw [e]
  cases hl : lL c with
  | true =>
    rw [hl] at il hta
    rw [if_pos rfl] at hta
    rw [hta] at ht ⊢
    have hsp : p + spn lL tp p ≤ tp.length := spn_le (by omega)
    have hs1 := spn_s e hl
    obtain ⟨C', k1, k2, k3⟩ := k_add (X := X) (M := M) (T := T) (a := nI (kOf ((tp.drop p).takeWhile lL))) (b := 0) (c := nI p) hr hs ht rfl (fun z => absurd z (kOf_1 _)) rfl
    refine ⟨C', tat_l N io_12 gr_12_0 ha il ?_, k2, k3⟩
    rw [nI_1, k_letters N h (spn lL tp (p + 1)) (p + 1) N (by omega) rfl (by omega), show p + 1 + spn lL tp (p + 1) = p + spn lL tp p by omega]
    exact t51 N (k_word N (by omega) h (by omega)) k1
  | false =>
    rw [hl] at il hta
    rw [if_neg (by decide)] at hta
    have id' := isDg hb
    cases hd : dL c with
    | true =>
      rw [hd] at id' hta
      rw [if_pos rfl] at hta
      rw [hta] at ht ⊢
      have hsp : p + spn dL tp p ≤ tp.length := spn_le (by omega)
      have hs1 := spn_s e hd
      have hdv : dg3 tp p (p + spn dL tp p) = dVal (((tp.drop p).takeWhile dL).take 3) := by
        unfold dg3
        rw [Nat.add_sub_cancel_left]
        congr 2
        exact (List.prefix_iff_eq_take.mp (List.takeWhile_prefix dL)).symm
      have hsb : nI (p + spn dL tp p) - nI p = nI (spn dL tp p) := by rw [nI_sub' (by omega), Nat.add_sub_cancel_left]
      have gd : ∀ r : Option (Int32 × LH), b_X7_addToken_104 N (hp X C M T) (some 12) (nI p) (nI (p + spn dL tp p)) = r → f_X7_addToken N (hp X C M T) (some 12) (nI p) = r := fun r hr' => by
        refine tat_d N io_12 gr_12_0 ha il id' ?_
        rw [nI_1, k_digits N h (spn dL tp (p + 1)) (p + 1) N (by omega) rfl (by omega), show p + 1 + spn dL tp (p + 1) = p + spn dL tp p by omega]
        exact hr'
      by_cases h3 : spn dL tp p ≤ 3
      · rw [if_pos h3] at ht ⊢
        obtain ⟨C', k1, k2, k3⟩ := k_add (X := X) (M := M) (T := T) (a := 1) (b := nI (dg3 tp p (p + spn dL tp p))) (c := nI p) hr hs ht rfl (fun _ => by rw [hdv]) rfl
        have h0 : dg3 tp p p = 0 := by unfold dg3; rw [Nat.sub_self]; rfl
        have kn := k_num (X := X) (M := M) (T := T) N h hsp (by omega) (fun j c' h1 h2 h3' => by
          have hj : j - p < ((tp.drop p).takeWhile dL).length := by
            show j - p < spn dL tp p
            omega
          have e2 := List.takeWhile_append_dropWhile (p := dL) (l := tp.drop p)
          have e3 : (tp.drop p)[j - p]? = some c' := by rw [List.getElem?_drop, show p + (j - p) = j by omega]; exact h3'
          rw [← e2, List.getElem?_append_left hj] at e3
          exact List.all_eq_true.mp (List.all_takeWhile) c' (List.mem_of_getElem? e3)) k1 (spn dL tp p) p N (Nat.le_refl _) rfl (by omega)
        rw [h0] at kn
        exact ⟨C', gd _ (t104 N (tnu_y N io_12 (by rw [hsb, ← nI_3]; exact nI_le h3 (by decide)) kn)), k2, k3⟩
      · rw [if_neg h3] at ht ⊢
        obtain ⟨C', k1, k2, k3⟩ := k_add (X := X) (M := M) (T := T) (a := 2) (b := 0) (c := nI p) hr hs ht rfl (fun z => nomatch z) rfl
        exact ⟨C', gd _ (t104 N (tnu_n N io_12 (by rw [hsb, ← nI_3]; exact nI_ge (by omega) (by omega)) k1)), k2, k3⟩
    | false =>
      rw [hd] at id' hta
      rw [if_neg (by decide)] at hta
      have ig := isSg hb
      cases hg : gL c with
      | true =>
        rw [hg] at ig hta
        rw [if_pos rfl] at hta
        rw [hta] at ht ⊢
        obtain ⟨C', k1, k2, k3⟩ := k_add (X := X) (M := M) (T := T) (a := nI c) (b := 0) (c := nI p) hr hs ht rfl (fun z => by
          have z' : c = 1 := z
          rw [z'] at hg; cases hg) rfl
        refine ⟨C', ?_, k2, k3⟩
        have := tat_g N io_12 gr_12_0 ha il id' ig k1
        rw [nI_1] at this
        exact this
      | false =>
        rw [hg] at ig hta
        rw [if_neg (by decide)] at hta
        rw [hta] at ht ⊢
        obtain ⟨C', k1, k2, k3⟩ := k_add (X := X) (M := M) (T := T) (a := 2) (b := 0) (c := nI p) hr hs ht rfl (fun z => nomatch z) rfl
        refine ⟨C', ?_, k2, k3⟩
        have := tat_w N io_12 gr_12_0 ha il id' ig k1
        rw [nI_1] at this
        exact this
/-- blanks, then something else or nothing -/
theorem spn_rn {p : Nat → Bool} {e : Nat} : ∀ (d i : Nat), i = e + d → (∀ j, e ≤ j → j < i → ∃ c, tp[j]? = some c ∧ p c = true) → (tp[i]? = none ∨ ∃ c, tp[i]? = some c ∧ p c = false) → spn p tp e = d := by
  intro d
  induction d generalizing e with
  | zero =>
    intro i hi _ hn
    have hi : i = e := hi
    subst hi
    rcases hn with hn | ⟨c, hn, hc⟩
    · exact spn_e hn
    · exact spn_f hn hc
  | succ d ih =>
    intro i hi hj hn
    obtain ⟨c, h1, h2⟩ := hj e (Nat.le_refl _) (by omega)
    rw [spn_s h1 h2, ih (e := e + 1) i (by omega) (fun j h3 h4 => hj j (by omega) h4) hn]
theorem tok_ge {i : Nat} {c : Nat} (h : tp[i]? = some c) : i + 1 ≤ (tokAt tp i).2.2.2 ∧ (tokAt tp i).2.2.2 ≤ tp.length := by
  have hl := at_lt h
  unfold tokAt
  rw [h]
  show i + 1 ≤ (if lL c = true then _ else if dL c = true then _ else _ : TOK).2.2.2 ∧ (if lL c = true then _ else if dL c = true then _ else _ : TOK).2.2.2 ≤ _
  cases h2 : lL c with
  | true =>
    have h3 : i + spn lL tp i ≤ tp.length := spn_le (by omega)
    have h4 := spn_s h h2
    exact ⟨by show i + 1 ≤ i + spn lL tp i; omega, h3⟩
  | false =>
    cases h5 : dL c with
    | true =>
      have h3 : i + spn dL tp i ≤ tp.length := spn_le (by omega)
      have h4 := spn_s h h5
      exact ⟨by show i + 1 ≤ i + spn dL tp i; omega, h3⟩
    | false => exact ⟨Nat.le_refl _, hl⟩
theorem k_ap (N : Nat) (hN : 700 ≤ N) : ∀ (d i m s : Nat) (C : CS), TP tp C → TRw tp C s → i + d = tp.length → d < m → s ≤ i → tE tp s ≤ tp.length → (∀ j, tE tp s ≤ j → j < i → ∃ c, tp[j]? = some c ∧ bL c = true) → ∃ C', l_X7_takeApart_9 N m (hp X C M T) (some 12) (nI (tE tp s)) (nI i) = some (hp X C' M T) ∧ TK tp C' (tok tp 0) ∧ CA C C' := by
  intro d
  induction d with
  | zero =>
    intro i m s C h hr hi hm hs he hj
    obtain ⟨m', rfl⟩ : ∃ m', m = m' + 1 := ⟨m - 1, by omega⟩
    have hi : i = tp.length := hi
    subst hi
    have h6 := h.2.1
    have gn : gI (hp X C M T) (some 9) 6 1 = some (nI tp.length) := gi_9_1.trans (congrArg some h.1.1)
    have en : tp[tp.length]? = none := List.getElem?_eq_none_iff.mpr (Nat.le_refl _)
    have hsp : spn bL tp (tE tp s) = tp.length - tE tp s := spn_rn _ tp.length (by omega) hj (Or.inl en)
    have hti : tI tp s = (0, 0, tp.length, tp.length) := by
      show tokAt tp (tE tp s + spn bL tp (tE tp s)) = _
      rw [hsp, show tE tp s + (tp.length - tE tp s) = tp.length by omega]
      unfold tokAt
      rw [en]
    obtain ⟨C1, a1, a2, a3⟩ := k_add (X := X) (M := M) (T := T) (a := 0) (b := 0) (c := nI tp.length) hr (by omega) hti rfl (fun z => nomatch z) rfl
    have tr : TR tp (c0 C1 4 0) (s + 1) := ⟨a2.fr (c0_n (by decide)) (fun _ _ => rfl), by omega, by omega, hti⟩
    obtain ⟨C2, b1, b2, b3⟩ := k_st (X := X) (M := M) (T := T) N tr (show 0 < s + 1 by omega) c0_s
    refine ⟨C2, ?_, b2, (a3.tr (CA.of (CT.rf.st (by decide) (by decide)))).tr (CA.of b3)⟩
    show b_X7_takeApart_9 N _ _ _ _ _ = _
    exact tap_e N gr_12_0 gn (nI_le (Nat.le_refl _) (by omega)) a1 (pi_12_5 _) b1
  | succ d ih =>
    intro i m s C h hr hi hm hs he hj
    obtain ⟨m', rfl⟩ : ∃ m', m = m' + 1 := ⟨m - 1, by omega⟩
    have h6 := h.2.1
    have gn : gI (hp X C M T) (some 9) 6 1 = some (nI tp.length) := gi_9_1.trans (congrArg some h.1.1)
    have hnl : ¬ nI tp.length ≤ nI i := nI_ge (by omega) (by omega)
    obtain ⟨c, e⟩ := at_ex tp (show i < tp.length by omega)
    show ∃ C', b_X7_takeApart_9 N _ _ _ _ _ = _ ∧ _
    by_cases hlt : i < tE tp s
    · obtain ⟨C', k1, k2, k3⟩ := ih (i + 1) m' s C h hr (by omega) (by omega) (by omega) he (fun j h1 h2 => absurd h1 (by omega))
      refine ⟨C', ?_, k2, k3⟩
      rw [tap_i N gr_12_0 gn hnl (nI_lt hlt (by omega)), nI_1]
      exact k1
    · have hnlt : ¬ nI i < nI (tE tp s) := nI_nlt (by omega) (by omega)
      have ha := k_at (X := X) (M := M) (T := T) h (i := i) (by omega)
      rw [sg_s e] at ha
      have ib := isBl (h.b e)
      cases hb : bL c with
      | true =>
        rw [hb] at ib
        obtain ⟨C', k1, k2, k3⟩ := ih (i + 1) m' s C h hr (by omega) (by omega) (by omega) he (fun j h1 h2 => by
          by_cases ej : j = i
          · rw [ej]; exact ⟨c, e, hb⟩
          · exact hj j h1 (by omega))
        refine ⟨C', ?_, k2, k3⟩
        rw [tap_b N gr_12_0 gn hnl hnlt ha ib, nI_1]
        exact k1
      | false =>
        rw [hb] at ib
        have hsp : spn bL tp (tE tp s) = i - tE tp s := spn_rn _ i (by omega) hj (Or.inr ⟨c, e, hb⟩)
        have hti : tI tp s = tokAt tp i := by
          show tokAt tp (tE tp s + spn bL tp (tE tp s)) = _
          rw [hsp, show tE tp s + (i - tE tp s) = i by omega]
        obtain ⟨C1, a1, a2, a3⟩ := k_tok (X := X) (M := M) (T := T) N hN h hr (by omega) e hti
        have hge := tok_ge e
        have hE : tE tp (s + 1) = (tokAt tp i).2.2.2 := by
          show (tI tp s).2.2.2 = _
          rw [hti]
        obtain ⟨C', k1, k2, k3⟩ := ih (i + 1) m' (s + 1) C1 (h.ca a3) a2 (by omega) (by omega) (by omega) (by rw [hE]; exact hge.2) (fun j h1 h2 => absurd h1 (by rw [hE]; omega))
        refine ⟨C', ?_, k2, a3.tr k3⟩
        rw [tap_t N gr_12_0 gn hnl hnlt ha ib a1, nI_1, ← hE]
        exact k1
/-- the text taken apart -/
theorem k_apart (N : Nat) (hN : 700 ≤ N) (h : TP tp C) : ∃ C', f_X7_takeApart N (hp X C M T) (some 12) = some (hp X C' M T) ∧ TK tp C' (tok tp 0) ∧ CA C C' := by
  have h6 := h.2.1
  have ca0 : CA C (c0 C 31 0) := ⟨fun j hj => c0_n (by omega), rfl, fun _ _ => rfl⟩
  obtain ⟨C', k1, k2, k3⟩ := k_ap (X := X) (M := M) (T := T) N hN tp.length 0 N 0 (c0 C 31 0) (h.ca ca0) ⟨c0_s, fun i hi => absurd hi (Nat.not_lt_zero i)⟩ (Nat.zero_add _) (by omega) (Nat.le_refl _) (Nat.zero_le _) (fun j _ h2 => absurd h2 (Nat.not_lt_zero j))
  refine ⟨C', ?_, k2, ca0.tr k3⟩
  unfold f_X7_takeApart b_X7_takeApart
  rw [if_pos io_12, bnd_eq (pi_12_4 _)]
  exact k1
end TKS
