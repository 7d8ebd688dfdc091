/-! the text read: lines -/
section PLN
variable {tp : List Nat}
abbrev NT := Option (Nat × Nat)
/-- what was noted first, the token at hand -/
abbrev SN := NT × TOK
def nte (n : NT) (c p : Nat) : NT := match n with
  | none => some (c, p)
  | some x => some x
def bdr {α β : Type} (x : Nat ⊕ α) (f : α → Nat ⊕ β) : Nat ⊕ β := match x with
  | .inl e => .inl e
  | .inr a => f a
def tlr {α β : Type} (x : Nat ⊕ (α × β)) : Nat ⊕ β := match x with
  | .inl e => .inl e
  | .inr a => .inr a.2
def sCh (tp : List Nat) (a b : Nat) (s : SN) : Nat ⊕ (Nat × SN) := if a ≤ s.2.1 ∧ s.2.1 ≤ b then .inr (s.2.1 - a, s.1, nx tp s.2) else .inl s.2.2.2.1
def topW (w : Nat) : Option Nat := if w = 1 then some 7 else if w = 2 then some 15 else if w = 4 then some 5 else none
def topA (w : Nat) : Option Nat := if w = 1 then some 7 else if w = 2 then some 15 else if w = 3 then some 5 else none
def sNum (tp : List Nat) (t : Option Nat) (s : SN) : Nat ⊕ (Nat × SN) := match t with
  | none => .inr (0, s)
  | some b => if s.2.1 = 1 then .inr (s.2.2.1, (if s.2.2.1 ≤ b then s.1 else nte s.1 2 s.2.2.2.1), nx tp s.2) else .inl s.2.2.2.1
def sWhat (tp : List Nat) (s : SN) : Nat ⊕ (Nat × SN) := if s.2.1 = 305 then .inr (0, s.1, nx tp s.2) else if 315 ≤ s.2.1 ∧ s.2.1 ≤ 317 then .inr (1 + (s.2.1 - 315), s.1, nx tp s.2) else .inl s.2.2.2.1
def sWhen (tp : List Nat) (s : SN) : Nat ⊕ (List STP × SN) := if s.2.1 = 318 then (match pE tp 6 (nx tp s.2) with
    | .inl e => .inl e
    | .inr p => .inr (p.1, s.1, p.2)) else .inr ([], s)
def sNeed (tp : List Nat) (k : Nat) (s : SN) : Nat ⊕ SN := if s.2.1 = k then .inr (s.1, nx tp s.2) else .inl s.2.2.2.1
/-- a line, when c lines stand ahead of it -/
def pLine (tp : List Nat) (c : Nat) (s : SN) : Nat ⊕ (LNV × SN) :=
  bdr (sCh tp 303 304 ((if 12 ≤ c then nte s.1 3 s.2.2.2.1 else s.1), s.2)) fun r1 => bdr (sCh tp 305 309 r1.2) fun r2 => bdr (sNum tp (topW r2.1) r2.2) fun r3 => bdr (sCh tp 310 314 r3.2) fun r4 => bdr (sWhat tp r4.2) fun r5 => bdr (sNum tp (topA r5.1) r5.2) fun r6 => bdr (sWhen tp r6.2) fun r7 => bdr (sNeed tp 59 r7.2) fun r8 => .inr ((r1.1, r2.1, r3.1, r4.1, r5.1, r6.1, r7.1), r8)
/-- how they decide -/
def pHow (tp : List Nat) (s : SN) : Nat ⊕ (Nat × SN) := if s.2.1 = 300 then bdr (sCh tp 301 304 (s.1, nx tp s.2)) fun r1 => bdr (sNeed tp 59 r1.2) fun r2 => .inr (r1.1, r2) else .inr (0, s)
/-- the lines, when ls stand ahead -/
def pLines (tp : List Nat) : Nat → List LNV → SN → Nat ⊕ (List LNV × SN)
  | 0, ls, s => .inr (ls, s)
  | n + 1, ls, s => if s.2.1 = 303 ∨ s.2.1 = 304 then bdr (pLine tp ls.length s) fun r => pLines tp n (ls ++ [r.1]) r.2 else if s.2.1 = 0 then .inr (ls, s) else .inl s.2.2.2.1
def pRules (tp : List Nat) : Nat ⊕ (RSV × NT) := bdr (pHow tp (none, tok tp 0)) fun r => bdr (pLines tp 601 [] r.2) fun q => .inr ((r.1, q.1), q.2.1)
theorem topW_5 {w : Nat} (h : w < 5) : a_who w = match topW w with
    | some b => nI b
    | none => -1 := by
  have : ∀ w : Fin 5, a_who w.val = match topW w.val with
    | some b => nI b
    | none => -1 := by decide
  exact this ⟨w, h⟩
theorem topA_4 {w : Nat} (h : w < 4) : a_what w = match topA w with
    | some b => nI b
    | none => -1 := by
  have : ∀ w : Fin 4, a_what w.val = match topA w.val with
    | some b => nI b
    | none => -1 := by decide
  exact this ⟨w, h⟩
theorem top_lt {w b : Nat} (h : topW w = some b ∨ topA w = some b) : b < 16 := by
  rcases h with h | h
  · unfold topW at h
    repeat' split at h
    all_goals first | (cases h; decide) | cases h
  · unfold topA at h
    repeat' split at h
    all_goals first | (cases h; decide) | cases h
end PLN
/-! the class's stages -/
section VST
variable {A A1 A2 A3 A4 : LH} {q qt : Option Nat} {N : Nat} {v x y t n top l kd : Int32}
theorem nt_t (h0 : isO A q 2 = true) (h1 : gI A q 2 5 = some x) (hx : x = 0) (h2 : pF A q 2 5 (LI v) = some A1) (h3 : gR A1 q 2 0 = some qt) (h4 : gI A1 qt 7 8 = some y) (h5 : pF A1 q 2 6 (LI y) = some A2) : f_X2_note A q v = some A2 := by
  unfold f_X2_note b_X2_note
  rw [if_pos h0, bnd_eq h1, if_pos hx, bnd_eq h2, bnd_eq h3, bnd_eq h4, bnd_eq h5]
theorem nt_f (h0 : isO A q 2 = true) (h1 : gI A q 2 5 = some x) (hx : ¬ x = 0) : f_X2_note A q v = some A := by
  unfold f_X2_note b_X2_note
  rw [if_pos h0, bnd_eq h1, if_neg hx]
theorem nb_o {a : Option Nat} (h0 : isO A q 2 = true) (h1 : ln6 A a = some l) (h2 : f_X10_isIn v l = some 1) (h3 : aI A a 0 v = some top) : f_X2_numberBehind N A q a v = b_X2_numberBehind_16 N A q top := by
  unfold f_X2_numberBehind b_X2_numberBehind
  rw [if_pos h0, bnd_eq h1, bnd_eq h2, if_neg i1_ne, bnd_eq h3]
theorem nb_16n (h : top = -1) : b_X2_numberBehind_16 N A q top = some (0, A) := by
  unfold b_X2_numberBehind_16
  rw [if_pos h]
theorem nb_16r (h : ¬ top = -1) (h1 : gR A q 2 0 = some qt) (h2 : gI A qt 7 6 = some kd) (h3 : ¬ kd = 1) (h4 : f_X2_refuse A q = some A1) : b_X2_numberBehind_16 N A q top = some (0, A1) := by
  unfold b_X2_numberBehind_16
  rw [if_neg h, bnd_eq h1, bnd_eq h2, if_neg h3, bnd_eq h4]
theorem nb_57 (h1 : gR A q 2 0 = some qt) (h2 : gI A qt 7 7 = some n) (h3 : f_X7_step N A qt = some A1) : b_X2_numberBehind_57 N A q = some (n, A1) := by
  unfold b_X2_numberBehind_57
  rw [bnd_eq h1, bnd_eq h2, bnd_eq h1, bnd_eq h3]
theorem nb_16a (h : ¬ top = -1) (h1 : gR A q 2 0 = some qt) (h2 : gI A qt 7 6 = some kd) (h3 : kd = 1) (h4 : gI A qt 7 7 = some n) (h5 : n ≤ top) (h6 : b_X2_numberBehind_57 N A q = some (n, A1)) : b_X2_numberBehind_16 N A q top = some (n, A1) := by
  unfold b_X2_numberBehind_16
  rw [if_neg h, bnd_eq h1, bnd_eq h2, if_pos h3, bnd_eq h1, bnd_eq h4, if_pos h5, h6]
theorem nb_16b (h : ¬ top = -1) (h1 : gR A q 2 0 = some qt) (h2 : gI A qt 7 6 = some kd) (h3 : kd = 1) (h4 : gI A qt 7 7 = some n) (h5 : ¬ n ≤ top) (h6 : f_X2_note A q 2 = some A1) (h7 : b_X2_numberBehind_57 N A1 q = some (n, A2)) : b_X2_numberBehind_16 N A q top = some (n, A2) := by
  unfold b_X2_numberBehind_16
  rw [if_neg h, bnd_eq h1, bnd_eq h2, if_pos h3, bnd_eq h1, bnd_eq h4, if_neg h5, bnd_eq h6, h7]
end VST
section VSU
variable {X : XS} {C : CS} {M : MS} {T : TS} {tp : List Nat} {τ : TOK} {N : Nat} {n : NT} {r : Nat ⊕ SN}
def NTc (n : NT) (C : CS) : Prop := match n with
  | none => C.1 7 = 0 ∧ C.1 8 = -1
  | some x => C.1 7 = nI x.1 ∧ C.1 8 = nI x.2 ∧ (x.1 = 2 ∨ x.1 = 3)
theorem NTc.n1 (h : NTc n C) : ¬ C.1 7 = 1 := by
  cases n with
  | none => rw [h.1]; decide
  | some x => rw [h.1]; exact ne_nI (b := 1) (by have := h.2.2; omega) (by have := h.2.2; omega) (by decide)
theorem NTc.k {C' : CS} (h : NTc n C) (h7 : C'.1 7 = C.1 7) (h8 : C'.1 8 = C.1 8) : NTc n C' := by
  cases n with
  | none => exact ⟨h7.trans h.1, h8.trans h.2⟩
  | some x => exact ⟨h7.trans h.1, h8.trans h.2.1, h.2.2⟩
/-- well or not -/
def Sv (tp : List Nat) (C : CS) (r : Nat ⊕ SN) : Prop := match r with
  | .inl e => TP tp C ∧ C.1 1 = 2 ∧ C.1 7 = 1 ∧ C.1 8 = nI e
  | .inr s => TP tp C ∧ TK tp C s.2 ∧ wfT tp s.2 ∧ NTc s.1 C
theorem v_nx (hN : 700 ≤ N) (h : Sv tp C (.inr (n, τ))) : ∃ C', f_X7_step N (hp X C M T) (some 12) = some (hp X C' M T) ∧ Sv tp C' (.inr (n, nx tp τ)) ∧ CFr C C' := by
  obtain ⟨h1, h2, h3, h4⟩ := h
  obtain ⟨C', k1, k2, k3⟩ := k_tk (X := X) (M := M) (T := T) N h2
  obtain ⟨w1, w2⟩ := nx_wf h3 h1.2.2
  exact ⟨C', k1, ⟨h1.ct k3, k2, w1, h4.k (k3.1 7 (by decide)) (k3.1 8 (by decide))⟩, CFr.of k3⟩
def plr (r : Nat ⊕ SN) : Nat := match r with
  | .inl e => e
  | .inr s => s.2.2.2.1
theorem v_refuse (h : Sv tp C r) : ∃ C', f_X2_refuse (hp X C M T) (some 11) = some (hp X C' M T) ∧ Sv tp C' (.inl (plr r)) ∧ CFr C C' := by
  cases r with
  | inl e =>
    obtain ⟨h1, h2, h3, h4⟩ := h
    have cf : CFr C (c0 C 1 2) := CFr.rf.c0 (by decide)
    exact ⟨c0 C 1 2, rf_d io_11 gi_11_5 h3 gr_11_0 (pi_12_6 _), ⟨h1.cf cf, c0_s, by rw [c0_n (by decide), h3], (c0_n (by decide)).trans h4⟩, cf⟩
  | inr s =>
    obtain ⟨h1, h2, h3, h4⟩ := h
    have cf : CFr C (c0 (c0 (c0 C 7 1) 8 (nI s.2.2.2.1)) 1 2) := ((CFr.rf.c0 (by decide)).c0 (by decide)).c0 (by decide)
    refine ⟨c0 (c0 (c0 C 7 1) 8 (nI s.2.2.2.1)) 1 2, rf_l io_11 gi_11_5 h4.n1 (pi_11_5 _) gr_11_0 (p := nI s.2.2.2.1) ?_ (pi_11_6 _) gr_11_0 (pi_12_6 _), ⟨h1.cf cf, c0_s, ?_, ?_⟩, cf⟩
    · rw [gi_12_8, c0_n (by decide), h2.2.2.1]
    · rw [c0_n (by decide), c0_n (by decide), c0_s]
    · rw [c0_n (by decide), c0_s]; rfl
theorem v_choice {a b : Nat} (hN : 700 ≤ N) (h : Sv tp C r) (ha : 2 < a) (hab : a ≤ b) (hb : b < 400) : ∃ v C', f_X2_choice N (hp X C M T) (some 11) (nI a) (nI b) = some (nI v, hp X C' M T) ∧ Sv tp C' (tlr (bdr r (sCh tp a b))) ∧ v ≤ b - a ∧ (∀ x, bdr r (sCh tp a b) = .inr x → v = x.1) ∧ CFr C C' := by
  obtain ⟨C1, f1, f2, f3⟩ := v_refuse (X := X) (M := M) (T := T) h
  cases r with
  | inl e => exact ⟨0, C1, chc_l io_11 gr_11_0 (k := nI 2) (gi_12_6.trans (congrArg some h.2.1)) (nI_lt ha (by omega)) f1, f2, Nat.zero_le _, fun x z => (nomatch z), f3⟩
  | inr s =>
    have hk := h.2.2.1.2.2.2.1
    have g1 : gI (hp X C M T) (some 12) 7 6 = some (nI s.2.1) := gi_12_6.trans (congrArg some h.2.1.1)
    show ∃ v C', _ ∧ Sv tp C' (tlr (sCh tp a b s)) ∧ _ ∧ (∀ x, sCh tp a b s = .inr x → v = x.1) ∧ _
    unfold sCh
    by_cases hc : a ≤ s.2.1 ∧ s.2.1 ≤ b
    · rw [if_pos hc]
      obtain ⟨C', k1, k2, k3⟩ := v_nx (X := X) (M := M) (T := T) (n := s.1) (τ := s.2) hN h
      refine ⟨s.2.1 - a, C', ?_, k2, by omega, fun x z => by cases z; rfl, k3⟩
      rw [← nI_sub' hc.1]
      exact chc_t io_11 gr_11_0 g1 (nI_nlt hc.1 (by omega)) (nI_le hc.2 (by omega)) k1
    · rw [if_neg hc]
      refine ⟨0, C1, ?_, f2, Nat.zero_le _, fun x z => (nomatch z), f3⟩
      by_cases h2 : s.2.1 < a
      · exact chc_l io_11 gr_11_0 g1 (nI_lt h2 (by omega)) f1
      · exact chc_h io_11 gr_11_0 g1 (nI_nlt (by omega) (by omega)) (nI_ge (by omega) (by omega)) f1
theorem v_takes_f {k : Nat} (h : Sv tp C r) (hk : k ≠ 2) (hk4 : k < 400) (hr : ∀ s, r = .inr s → s.2.1 ≠ k) : f_X2_takes N (hp X C M T) (some 11) (nI k) = some (0, hp X C M T) := by
  cases r with
  | inl e => exact ta_f io_11 gr_11_0 gi_12_6 (by rw [h.2.1]; exact ne_nI (a := 2) (Ne.symm hk) (by decide) (by omega))
  | inr s => exact ta_f io_11 gr_11_0 gi_12_6 (by rw [h.2.1.1]; have := h.2.2.1.2.2.2.1; exact ne_nI (hr s rfl) (by omega) (by omega))
theorem v_takes {k : Nat} {s : SN} (hN : 700 ≤ N) (h : Sv tp C (.inr s)) (hk : s.2.1 = k) : ∃ C', f_X2_takes N (hp X C M T) (some 11) (nI k) = some (1, hp X C' M T) ∧ Sv tp C' (.inr (s.1, nx tp s.2)) ∧ CFr C C' := by
  obtain ⟨C', k1, k2, k3⟩ := v_nx (X := X) (M := M) (T := T) (n := s.1) (τ := s.2) hN h
  exact ⟨C', ta_t io_11 gr_11_0 gi_12_6 (by rw [h.2.1.1, hk]) k1, k2, k3⟩
theorem v_needs {k : Nat} (hN : 700 ≤ N) (h : Sv tp C r) (hk : k ≠ 2) (hk4 : k < 400) : ∃ C', f_X2_needs N (hp X C M T) (some 11) (nI k) = some (hp X C' M T) ∧ Sv tp C' (bdr r (sNeed tp k)) ∧ CFr C C' := by
  obtain ⟨C1, f1, f2, f3⟩ := v_refuse (X := X) (M := M) (T := T) h
  cases r with
  | inl e => exact ⟨C1, ne_f io_11 gr_11_0 gi_12_6 (by rw [h.2.1]; exact ne_nI (a := 2) (Ne.symm hk) (by decide) (by omega)) f1, f2, f3⟩
  | inr s =>
    show ∃ C', _ ∧ Sv tp C' (sNeed tp k s) ∧ _
    unfold sNeed
    by_cases hc : s.2.1 = k
    · rw [if_pos hc]
      obtain ⟨C', k1, k2, k3⟩ := v_nx (X := X) (M := M) (T := T) (n := s.1) (τ := s.2) hN h
      exact ⟨C', ne_t io_11 gr_11_0 gi_12_6 (by rw [h.2.1.1, hc]) k1, k2, k3⟩
    · rw [if_neg hc]
      exact ⟨C1, ne_f io_11 gr_11_0 gi_12_6 (by rw [h.2.1.1]; have := h.2.2.1.2.2.2.1; exact ne_nI hc (by omega) (by omega)) f1, f2, f3⟩
theorem v_what (hN : 700 ≤ N) (h : Sv tp C r) (K : LH → Int32 → Option LH) : ∃ v C', ((f_X2_takes N (hp X C M T) (some 11) (305 : Int32)).bind fun p17 => if p17.1 = 0 then (f_X2_choice N p17.2 (some 11) (315 : Int32) (317 : Int32)).bind fun p21 => K p21.2 ((1 : Int32) + p21.1) else K p17.2 (0 : Int32)) = K (hp X C' M T) (nI v) ∧ Sv tp C' (tlr (bdr r (sWhat tp))) ∧ v < 4 ∧ (∀ x, bdr r (sWhat tp) = .inr x → v = x.1) ∧ CFr C C' := by
  obtain ⟨v, C1, f1, f2, f3, f4, f5⟩ := v_choice (X := X) (M := M) (T := T) (a := 315) (b := 317) hN h (by decide) (by decide) (by decide)
  have e1 : (1 : Int32) + nI v = nI (1 + v) := by rw [show (1 : Int32) = nI 1 from rfl, nI_add]
  cases r with
  | inl e =>
    have t := v_takes_f (X := X) (M := M) (T := T) (N := N) (k := 305) h (by decide) (by decide) (fun s z => nomatch z)
    refine ⟨1 + v, C1, (bnd_eq t).trans ((if_pos rfl).trans ((bnd_eq f1).trans (by rw [e1]))), f2, by omega, fun x z => (nomatch z), f5⟩
  | inr s =>
    show ∃ v C', _ ∧ Sv tp C' (tlr (sWhat tp s)) ∧ _ ∧ (∀ x, sWhat tp s = .inr x → v = x.1) ∧ _
    unfold sWhat
    by_cases hc : s.2.1 = 305
    · rw [if_pos hc]
      obtain ⟨C', k1, k2, k3⟩ := v_takes (X := X) (M := M) (T := T) hN h hc
      exact ⟨0, C', (bnd_eq k1).trans (if_neg i1_ne), k2, by decide, fun x z => by cases z; rfl, k3⟩
    · rw [if_neg hc]
      have t := v_takes_f (X := X) (M := M) (T := T) (N := N) (k := 305) h (by decide) (by decide) (fun s' z => by cases z; exact hc)
      have f2' : Sv tp C1 (tlr (sCh tp 315 317 s)) := f2
      have f4' : ∀ x, sCh tp 315 317 s = .inr x → v = x.1 := f4
      unfold sCh at f2' f4'
      refine ⟨1 + v, C1, (bnd_eq t).trans ((if_pos rfl).trans ((bnd_eq f1).trans (by rw [e1]))), ?_, by omega, fun x z => ?_, f5⟩
      · by_cases hd : 315 ≤ s.2.1 ∧ s.2.1 ≤ 317
        · rw [if_pos hd] at f2' ⊢
          have f2' : Sv tp C1 (.inr (s.1, nx tp s.2)) := f2'
          show Sv tp C1 (.inr (s.1, nx tp s.2))
          exact f2'
        · rw [if_neg hd] at f2' ⊢; exact f2'
      · by_cases hd : 315 ≤ s.2.1 ∧ s.2.1 ≤ 317
        · rw [if_pos hd] at z f4'
          have hv : v = s.2.1 - 315 := f4' (s.2.1 - 315, s.1, nx tp s.2) rfl
          have hz := Sum.inr.inj z
          rw [← hz, hv]
        · rw [if_neg hd] at z; cases z
theorem v_note {c : Nat} {s : SN} (h : Sv tp C (.inr s)) (hc : c = 2 ∨ c = 3) : ∃ C', f_X2_note (hp X C M T) (some 11) (nI c) = some (hp X C' M T) ∧ Sv tp C' (.inr (nte s.1 c s.2.2.2.1, s.2)) ∧ CFr C C' := by
  obtain ⟨n, τ⟩ := s
  obtain ⟨h1, h2, h3, h4⟩ := h
  cases n with
  | none =>
    have cf : CFr C (c0 (c0 C 7 (nI c)) 8 (nI τ.2.2.1)) := (CFr.rf.c0 (by decide)).c0 (by decide)
    refine ⟨c0 (c0 C 7 (nI c)) 8 (nI τ.2.2.1), nt_t io_11 gi_11_5 h4.1 (pi_11_5 _) gr_11_0 (y := nI τ.2.2.1) ?_ (pi_11_6 _), ⟨h1.cf cf, ?_, h3, ?_, c0_s, hc⟩, cf⟩
    · rw [gi_12_8, c0_n (by decide), h2.2.2.1]
    · exact h2.fr (fun j hj => by rw [c0_n (by omega), c0_n (by omega)]) (fun _ _ => rfl)
    · rw [c0_n (by decide), c0_s]
  | some x =>
    refine ⟨C, nt_f io_11 gi_11_5 ?_, ⟨h1, h2, h3, h4⟩, CFr.rf⟩
    rw [h4.1]
    exact ne_nI (b := 0) (by have := h4.2.2; omega) (by have := h4.2.2; omega) (by decide)
theorem v_num {a w : Nat} {t : Option Nat} {l : Nat} {top : Int32} (hN : 700 ≤ N) (h : Sv tp C r) (ht : top = match t with
    | some b => nI b
    | none => -1) (htl : ∀ b, t = some b → b < 16) (hl : ln6 (hp X C M T) (some a) = some (nI l)) (hw : w < l) (hl5 : l < 100) (ha : ∀ C', aI (hp X C' M T) (some a) 0 (nI w) = some top) : ∃ v C', f_X2_numberBehind N (hp X C M T) (some 11) (some a) (nI w) = some (nI v, hp X C' M T) ∧ Sv tp C' (tlr (bdr r (sNum tp t))) ∧ (∀ x, bdr r (sNum tp t) = .inr x → v = x.1) ∧ CFr C C' := by
  obtain ⟨C1, f1, f2, f3⟩ := v_refuse (X := X) (M := M) (T := T) h
  have st := nb_o (N := N) io_11 hl (isIn_n hw (by omega)) (ha C)
  cases t with
  | none =>
    have ht : top = -1 := ht
    refine ⟨0, C, st.trans (nb_16n ht), ?_, ?_, CFr.rf⟩
    · cases r with
      | inl e => exact h
      | inr s => exact h
    · intro x z
      cases r with
      | inl e => cases z
      | inr s => cases z; rfl
  | some b =>
    have hb := htl b rfl
    have ht : top = nI b := ht
    have hm1 : ¬ top = -1 := fun z => by
      have := nI_pos (n := b) (by omega)
      rw [← ht, z] at this
      exact this (by decide)
    cases r with
    | inl e => exact ⟨0, C1, st.trans (nb_16r hm1 gr_11_0 (kd := 2) (gi_12_6.trans (congrArg some h.2.1)) (by decide) f1), f2, fun x z => (nomatch z), f3⟩
    | inr s =>
      have hk := h.2.2.1.2.2.2.1
      have g1 : gI (hp X C M T) (some 12) 7 6 = some (nI s.2.1) := gi_12_6.trans (congrArg some h.2.1.1)
      show ∃ v C', _ ∧ Sv tp C' (tlr (if s.2.1 = 1 then .inr (s.2.2.1, (if s.2.2.1 ≤ b then s.1 else nte s.1 2 s.2.2.2.1), nx tp s.2) else .inl s.2.2.2.1 : Nat ⊕ (Nat × SN))) ∧ (∀ x, (if s.2.1 = 1 then .inr (s.2.2.1, (if s.2.2.1 ≤ b then s.1 else nte s.1 2 s.2.2.2.1), nx tp s.2) else .inl s.2.2.2.1 : Nat ⊕ (Nat × SN)) = .inr x → v = x.1) ∧ _
      by_cases h1 : s.2.1 = 1
      · rw [if_pos h1]
        have g2 : gI (hp X C M T) (some 12) 7 7 = some (nI s.2.2.1) := gi_12_7.trans (congrArg some (h.2.1.2.1 h1))
        have hn := h.2.2.1.2.2.2.2.1 h1
        by_cases h5 : s.2.2.1 ≤ b
        · obtain ⟨C', k1, k2, k3⟩ := v_nx (X := X) (M := M) (T := T) (n := s.1) (τ := s.2) hN h
          refine ⟨s.2.2.1, C', st.trans (nb_16a hm1 gr_11_0 g1 (by rw [h1]; rfl) g2 (by rw [ht]; exact nI_le h5 (by omega)) (nb_57 gr_11_0 g2 k1)), ?_, fun x z => by cases z; rfl, k3⟩
          rw [if_pos h5]; exact k2
        · obtain ⟨C2, d1, d2, d3⟩ := v_note (X := X) (M := M) (T := T) (c := 2) h (Or.inl rfl)
          obtain ⟨C', k1, k2, k3⟩ := v_nx (X := X) (M := M) (T := T) (n := nte s.1 2 s.2.2.2.1) (τ := s.2) hN d2
          have g2' : gI (hp X C2 M T) (some 12) 7 7 = some (nI s.2.2.1) := gi_12_7.trans (congrArg some (d2.2.1.2.1 h1))
          refine ⟨s.2.2.1, C', st.trans (nb_16b hm1 gr_11_0 g1 (by rw [h1]; rfl) g2 (by rw [ht]; exact nI_ge (by omega) (by omega)) d1 (nb_57 gr_11_0 g2' k1)), ?_, fun x z => by cases z; rfl, d3.tr k3⟩
          rw [if_neg h5]; exact k2
      · rw [if_neg h1]
        exact ⟨0, C1, st.trans (nb_16r hm1 gr_11_0 g1 (show ¬ nI s.2.1 = nI 1 from ne_nI h1 (by omega) (by decide)) f1), f2, fun x z => (nomatch z), f3⟩
end VSU
