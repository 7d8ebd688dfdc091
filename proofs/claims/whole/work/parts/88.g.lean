/-! the reference reads a line -/
section MLA
variable {A A1 A2 A3 A4 A5 A6 A7 A8 A9 : LH} {q q1 : Option Nat} {N : Nat} {a c d v x y z s0 : Int32}
theorem bl_1 (h1 : sI A q1 0 v s0 = some A1) (h2 : f_X11_next N A1 q = some A2) (h3 : f_X11_who N A2 q v = some (d, A3)) (hd : d = 0) : b_X11_oneLine_85 N A q v s0 v q1 = some (0, A3) := by
  unfold b_X11_oneLine_85
  rw [bnd_eq h1, bnd_eq h2, bnd_eq h3, if_pos hd]
theorem bl_2 (h1 : sI A q1 0 v s0 = some A1) (h2 : f_X11_next N A1 q = some A2) (h3 : f_X11_who N A2 q v = some (1, A3)) (h4 : f_X11_act N A3 q v = some (d, A4)) (hd : d = 0) : b_X11_oneLine_85 N A q v s0 v q1 = some (0, A4) := by
  unfold b_X11_oneLine_85
  rw [bnd_eq h1, bnd_eq h2, bnd_eq h3, if_neg i1_ne, bnd_eq h4, if_pos hd]
theorem bl_3 (h1 : sI A q1 0 v s0 = some A1) (h2 : f_X11_next N A1 q = some A2) (h3 : f_X11_who N A2 q v = some (1, A3)) (h4 : f_X11_act N A3 q v = some (1, A4)) (h5 : f_X11_what N A4 q v = some (d, A5)) (hd : d = 0) : b_X11_oneLine_85 N A q v s0 v q1 = some (0, A5) := by
  unfold b_X11_oneLine_85
  rw [bnd_eq h1, bnd_eq h2, bnd_eq h3, if_neg i1_ne, bnd_eq h4, if_neg i1_ne, bnd_eq h5, if_pos hd]
theorem bl_4 (h1 : sI A q1 0 v s0 = some A1) (h2 : f_X11_next N A1 q = some A2) (h3 : f_X11_who N A2 q v = some (1, A3)) (h4 : f_X11_act N A3 q v = some (1, A4)) (h5 : f_X11_what N A4 q v = some (1, A5)) (h6 : gR A5 q 11 32 = some q1) (h7 : sI A5 q1 0 (v + 6) (-1) = some A6) (h8 : f_X11_isWord A6 q 2003330414 = some d) (hd : d = 0) : b_X11_oneLine_85 N A q v s0 v q1 = b_X11_oneLine_169 N A6 q := by
  unfold b_X11_oneLine_85
  rw [bnd_eq h1, bnd_eq h2, bnd_eq h3, if_neg i1_ne, bnd_eq h4, if_neg i1_ne, bnd_eq h5, if_neg i1_ne, bnd_eq h6, bnd_eq h7, bnd_eq h8, if_pos hd]
theorem bl_5 {P : Option (Int32 × LH)} (h1 : sI A q1 0 v s0 = some A1) (h2 : f_X11_next N A1 q = some A2) (h3 : f_X11_who N A2 q v = some (1, A3)) (h4 : f_X11_act N A3 q v = some (1, A4)) (h5 : f_X11_what N A4 q v = some (1, A5)) (h6 : gR A5 q 11 32 = some q1) (h7 : sI A5 q1 0 (v + 6) (-1) = some A6) (h8 : f_X11_isWord A6 q 2003330414 = some 1) (h9 : f_X11_next N A6 q = some A7) (h10 : gR A7 q 11 32 = some q1) (h11 : gI A7 q 11 31 = some x) (h12 : sI A7 q1 0 (v + 6) x = some A8) (h13 : ((F_X11_any N 8 A8 q).bind fun p58 => if p58.1 = 0 then some ((0 : Int32), p58.2) else (f_X11_put p58.2 q (13 : Int32) (0 : Int32)).bind fun p62 => b_X11_oneLine_169 N p62 q) = P) : b_X11_oneLine_85 N A q v s0 v q1 = P := by
  unfold b_X11_oneLine_85
  rw [bnd_eq h1, bnd_eq h2, bnd_eq h3, if_neg i1_ne, bnd_eq h4, if_neg i1_ne, bnd_eq h5, if_neg i1_ne, bnd_eq h6, bnd_eq h7, bnd_eq h8, if_neg i1_ne, bnd_eq h9, bnd_eq h10, bnd_eq h11, bnd_eq h12, h13]
theorem bl_169 (h1 : gI A q 11 30 = some x) (h2 : pF A q 11 30 (LI (x + 1)) = some A1) (h3 : f_X11_need N A1 q 59 = some (d, A2)) : b_X11_oneLine_169 N A q = some (d, A2) := by
  unfold b_X11_oneLine_169
  rw [bnd_eq h1, bnd_eq h2, bnd_eq h3]
theorem bl_63 (h1 : gR A q 11 32 = some q1) (h2 : f_X11_isWord A q 7103860 = some x) : b_X11_oneLine_63 N A q y 8 = b_X11_oneLine_85 N A q (8 * y) (if x = 0 then 0 else 1) (8 * y) q1 := by
  unfold b_X11_oneLine_63
  rw [bnd_eq h1, bnd_eq h2]
  by_cases hx : x = 0
  · rw [if_pos hx, if_pos hx]
  · rw [if_neg hx, if_neg hx]
theorem bl_43 (h1 : gI A q 11 30 = some x) : b_X11_oneLine_43 N A q = b_X11_oneLine_63 N A q (if 12 ≤ x then 12 else x) 8 := by
  unfold b_X11_oneLine_43
  rw [bnd_eq h1]
  by_cases hx : 12 ≤ x
  · rw [if_pos hx, if_pos hx]
  · rw [if_neg hx, if_neg hx, bnd_eq h1]
theorem bl_25n (h1 : gI A q 11 30 = some x) (hx : x = 12) (h2 : gI A q 11 20 = some y) (h3 : f_X11_note A q 3 y = some A1) : b_X11_oneLine_25 N A q = b_X11_oneLine_43 N A1 q := by
  unfold b_X11_oneLine_25
  rw [bnd_eq h1, if_pos hx, bnd_eq h2, bnd_eq h3]
theorem bl_25k (h1 : gI A q 11 30 = some x) (hx : ¬ x = 12) : b_X11_oneLine_25 N A q = b_X11_oneLine_43 N A q := by
  unfold b_X11_oneLine_25
  rw [bnd_eq h1, if_neg hx]
theorem bl_o (h0 : isO A q 11 = true) (h1 : f_X11_isWord A q 7103860 = some x) (h2 : f_X11_isWord A q 1937010544 = some y) (hxy : ¬ (x = 0 ∧ y = 0)) : f_X11_oneLine N A q = zc (b_X11_oneLine_25 N A q) := by
  unfold f_X11_oneLine b_X11_oneLine
  rw [if_pos h0, bnd_eq h1]
  by_cases hx : x = 0
  · rw [if_pos hx, bnd_eq h2, if_neg (fun z => hxy ⟨hx, z⟩)]
  · rw [if_neg hx]
theorem bl_ow (h0 : isO A q 11 = true) (h1 : f_X11_isWord A q 7103860 = some x) (hx : x = 0) (h2 : f_X11_isWord A q 1937010544 = some y) (hy : y = 0) (h3 : f_X11_wrong A q = some (0, A1)) : f_X11_oneLine N A q = some (0, A1) := by
  unfold f_X11_oneLine b_X11_oneLine
  rw [if_pos h0, bnd_eq h1, if_pos hx, bnd_eq h2, if_pos hy, bnd_eq h3, zc_0]
end MLA
section MLB
variable {X : XS} {C : CS} {M M' : MS} {T : TS} {tp : List Nat} {s : SN} {N : Nat} {D : List (Nat × Nat)} {ls : List LNV}
def pWho (tp : List Nat) (s : SN) : Nat ⊕ ((Nat × Nat) × SN) := bdr (sCh tp 305 309 s) fun r => bdr (sNum tp (topW r.1) r.2) fun r3 => .inr ((r.1, r3.1), r3.2)
def pWhat (tp : List Nat) (s : SN) : Nat ⊕ ((Nat × Nat) × SN) := bdr (sWhat tp s) fun r => bdr (sNum tp (topA r.1) r.2) fun r3 => .inr ((r.1, r3.1), r3.2)
theorem pl_flat {c : Nat} : pLine tp c s = bdr (sCh tp 303 304 ((if 12 ≤ c then nte s.1 3 s.2.2.2.1 else s.1), s.2)) fun r1 => bdr (pWho tp r1.2) fun w => bdr (sCh tp 310 314 w.2) fun a => bdr (pWhat tp a.2) fun o => bdr (sWhen tp o.2) fun r7 => bdr (sNeed tp 59 r7.2) fun r8 => .inr ((r1.1, w.1.1, w.1.2, a.1, o.1.1, o.1.2, r7.1), r8) := by
  unfold pLine
  refine congrArg (bdr _) (funext fun r1 => ?_)
  unfold pWho
  cases sCh tp 305 309 r1.2 with
  | inl e => rfl
  | inr r2 =>
    show bdr (sNum tp (topW r2.1) r2.2) _ = bdr (bdr (sNum tp (topW r2.1) r2.2) _) _
    cases sNum tp (topW r2.1) r2.2 with
    | inl e => rfl
    | inr r3 =>
      show bdr (sCh tp 310 314 r3.2) _ = bdr (sCh tp 310 314 r3.2) _
      refine congrArg (bdr _) (funext fun r4 => ?_)
      unfold pWhat
      cases sWhat tp r4.2 with
      | inl e => rfl
      | inr r5 =>
        show bdr (sNum tp (topA r5.1) r5.2) _ = bdr (bdr (sNum tp (topA r5.1) r5.2) _) _
        cases sNum tp (topA r5.1) r5.2 with
        | inl e => rfl
        | inr r6 => rfl
/-- a line in the row -/
def RLn (b : Nat → Nat → Int32) (D : List (Nat × Nat)) (k : Nat) (l : LNV) : Prop := b 32 (8 * k) = nI l.1 ∧ b 32 (8 * k + 1) = nI l.2.1 ∧ b 32 (8 * k + 2) = nI l.2.2.1 ∧ b 32 (8 * k + 3) = nI l.2.2.2.1 ∧ b 32 (8 * k + 4) = nI l.2.2.2.2.1 ∧ b 32 (8 * k + 5) = nI l.2.2.2.2.2.1 ∧
  (l.2.2.2.2.2.2 = [] ∧ b 32 (8 * k + 6) = -1 ∨ l.2.2.2.2.2.2 ≠ [] ∧ ∃ off, b 32 (8 * k + 6) = nI off ∧ off + (mcode l.2.2.2.2.2.2).length ≤ D.length ∧ ∀ (i : Nat) (x : Nat × Nat), (mcode l.2.2.2.2.2.2)[i]? = some x → D[off + i]? = some x)
theorem RLn.mono {b b' : Nat → Nat → Int32} {D' : List (Nat × Nat)} {k : Nat} {l : LNV} (h : RLn b D k l) (hb : ∀ j, j < 7 → b' 32 (8 * k + j) = b 32 (8 * k + j)) : RLn b' (D ++ D') k l := by
  obtain ⟨h0, h1, h2, h3, h4, h5, h6⟩ := h
  refine ⟨(hb 0 (by decide)).trans h0, (hb 1 (by decide)).trans h1, (hb 2 (by decide)).trans h2, (hb 3 (by decide)).trans h3, (hb 4 (by decide)).trans h4, (hb 5 (by decide)).trans h5, ?_⟩
  rcases h6 with ⟨a, c⟩ | ⟨a, off, c, d, e⟩
  · exact Or.inl ⟨a, (hb 6 (by decide)).trans c⟩
  · refine Or.inr ⟨a, off, (hb 6 (by decide)).trans c, by rw [List.length_append]; omega, fun i x hx => ?_⟩
    have := e i x hx
    rw [List.getElem?_append_left (at_lt this)]; exact this
def RLs (M : MS) (D : List (Nat × Nat)) (ls : List LNV) : Prop := M.1 30 = nI ls.length ∧ ∀ (i : Nat) (l : LNV), i < 12 → ls[i]? = some l → RLn M.2.2 D i l
/-- what the reading of a line leaves alone -/
def Fr3 (M M' : MS) : Prop := (∀ j, j < 18 ∨ j = 19 ∨ j = 29 ∨ 35 < j → M'.1 j = M.1 j) ∧ ∀ j, j ≠ 32 → j ≠ 33 → j ≠ 34 → M'.2.2 j = M.2.2 j
theorem Fr3.of (h : Fr2 M M') : Fr3 M M' := ⟨fun j hj => h.1 j (by omega), h.2⟩
theorem Fr3.tr {M2 : MS} (h : Fr3 M M') (h2 : Fr3 M' M2) : Fr3 M M2 := ⟨fun j hj => (h2.1 j hj).trans (h.1 j hj), fun j a b c => (h2.2 j a b c).trans (h.2 j a b c)⟩
theorem fr3_30 {v : Int32} : Fr3 M (m0 M 30 v) := ⟨fun j hj => m0_n (by omega), fun _ _ _ _ => rfl⟩
def LnM (tp : List Nat) (X : XS) (C : CS) (T : TS) (M : MS) (ls : List LNV) (F : Option (Int32 × LH)) (P : Nat ⊕ (LNV × SN)) : Prop := match P with
  | .inl e => ∃ M', F = some (0, hp X C M' T) ∧ RDd M' e ∧ Fr3 M M'
  | .inr x => ∃ M' D', F = some (1, hp X C M' T) ∧ RLv tp M' x.2 D' ∧ D'.length ≤ x.2.2.2.2.1 ∧ RLs M' D' (ls ++ [x.1]) ∧ Fr3 M M'
/-- the end of a line -/
theorem m_169 {k : Nat} {w : LNV} {D0 E : List (Nat × Nat)} {M0 : MS} (hN : 700 ≤ N) (h : RLv tp M s D) (hD : D.length ≤ s.2.2.2.1) (hDE : D = D0 ++ E) (hs : RLs M0 D0 ls) (hk : k = min ls.length 12) (hfr : Fr2 M0 M) (hold : ∀ j, j < 8 * k → M.2.2 32 j = M0.2.2 32 j) (hnew : ls.length < 12 → RLn M.2.2 D k w) : LnM tp X C T M0 ls (b_X11_oneLine_169 N (hp X C M T) (some 35)) (bdr (sNeed tp 59 s) fun r8 => .inr (w, r8)) := by
  have h30 : M.1 30 = nI ls.length := (hfr.1 30 (by decide)).trans hs.1
  have hh := m_need (X := X) (C := C) (T := T) (c := 59) hN rfl (h.m0 (k := 30) (v := nI (ls.length + 1)) (by decide))
  have p30 : pF (hp X C M T) (some 35) 11 30 (LI (nI ls.length + 1)) = some (hp X C (m0 M 30 (nI (ls.length + 1))) T) := by rw [nI_1]; exact pi_35_30 _
  have nw := (nx_st h.1.2.2.1 h.1.1.2.2).2.1
  cases hp' : sNeed tp 59 s with
  | inl e =>
    rw [hp'] at hh
    obtain ⟨M1, k1, k2, k3⟩ := hh
    exact ⟨M1, bl_169 (gi_35_30.trans (congrArg some h30)) p30 k1, k2, ((Fr3.of hfr).tr fr3_30).tr (Fr3.of k3)⟩
  | inr y =>
    rw [hp'] at hh
    obtain ⟨M1, k1, k2, k3, k4⟩ := hh
    have hy : y.2 = nx tp s.2 := by
      unfold sNeed at hp'
      split at hp'
      · cases hp'; rfl
      · cases hp'
    refine ⟨M1, D, bl_169 (gi_35_30.trans (congrArg some h30)) p30 k1, k2, ?_, ⟨?_, fun i l hi hil => ?_⟩, ((Fr3.of hfr).tr fr3_30).tr (Fr3.of k3)⟩
    · show D.length ≤ y.2.2.2.1
      rw [hy]; omega
    · rw [List.length_append, List.length_singleton]
      exact (k3.1 30 (by decide)).trans m0_s
    · have k4' : M1.2.2 32 = M.2.2 32 := k4
      rcases ap_some hil with ⟨g1, g2⟩ | ⟨g1, g2⟩
      · rw [hDE]
        exact (hs.2 i l hi g1).mono (fun j hj => by rw [k4']; exact hold _ (by omega))
      · subst g2
        have hkk : k = i := by omega
        subst hkk
        have := hnew (by omega)
        have e := this.mono (b' := M1.2.2) (D' := []) (fun j hj => by rw [k4'])
        rw [List.append_nil] at e
        exact e
end MLB
