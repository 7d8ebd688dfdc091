/-! the class reads a line, all lines -/
section VLA
variable {A A1 A2 A3 A4 A5 A6 : LH} {q : Option Nat} {N : Nat} {v1 v2 v3 v4 v5 v6 c x : Int32} {B : Option LH}
theorem rl_92 {P : Option LH} (h1 : f_X2_numberBehind N A q (some 2) v5 = some (v6, A1)) (h2 : pF A1 q 2 4 (LI 0) = some A2) (h3 : ((f_X2_takes N A2 q (318 : Int32)).bind fun p29 => if p29.1 = 0 then b_X2_readLine_125 N p29.2 q v1 v2 v3 v4 v5 v6 else (F_X2_readEither N 8 p29.2 q (1 : Int32)).bind fun p59 => b_X2_readLine_125 N p59 q v1 v2 v3 v4 v5 v6) = P) : b_X2_readLine_92 N A q v1 v2 v3 v4 v5 = P := by
  unfold b_X2_readLine_92
  exact (bnd_eq h1).trans ((bnd_eq h2).trans h3)
theorem rl_33 {P : Option LH} (h1 : f_X2_choice N A q 305 309 = some (v2, A1)) (h2 : f_X2_numberBehind N A1 q (some 1) v2 = some (v3, A2)) (h3 : f_X2_choice N A2 q 310 314 = some (v4, A3)) (h4 : ((f_X2_takes N A3 q (305 : Int32)).bind fun p17 => if p17.1 = 0 then (f_X2_choice N p17.2 q (315 : Int32) (317 : Int32)).bind fun p21 => b_X2_readLine_92 N p21.2 q v1 v2 v3 v4 ((1 : Int32) + p21.1) else b_X2_readLine_92 N p17.2 q v1 v2 v3 v4 (0 : Int32)) = P) : b_X2_readLine_33 N A q v1 = P := by
  unfold b_X2_readLine_33
  exact (bnd_eq h1).trans ((bnd_eq h2).trans ((bnd_eq h3).trans h4))
theorem rl_14 {v : Nat} (h1 : f_X2_choice N A q 303 304 = some (nI v, A1)) (hv : v ≤ 1) : b_X2_readLine_14 N A q = b_X2_readLine_33 N A1 q (nI v) := by
  unfold b_X2_readLine_14
  rw [bnd_eq h1]
  rcases (show v = 0 ∨ v = 1 by omega) with rfl | rfl
  · exact if_neg (show ¬ (0 : Int32) = 1 by decide)
  · exact if_pos rfl
theorem rl_n (h0 : isO A q 2 = true) (h1 : gI A q 2 3 = some c) (h2 : c = 12) (h3 : f_X2_note A q 3 = some A1) : f_X2_readLine N A q = b_X2_readLine_14 N A1 q := by
  unfold f_X2_readLine b_X2_readLine
  rw [if_pos h0, bnd_eq h1, if_pos h2, bnd_eq h3]
theorem rl_k (h0 : isO A q 2 = true) (h1 : gI A q 2 3 = some c) (h2 : ¬ c = 12) : f_X2_readLine N A q = b_X2_readLine_14 N A q := by
  unfold f_X2_readLine b_X2_readLine
  rw [if_pos h0, bnd_eq h1, if_neg h2]
end VLA
section VLK
variable {X : XS} {C C' : CS} {M : MS} {T T0 : TS} {tp : List Nat} {N : Nat} {r : Nat ⊕ SN} {mu : List Nat} {ls : List LNV} {s : SN}
/-- what the reading of lines leaves alone -/
def CFl (C C' : CS) : Prop := (∀ j, j = 0 ∨ (8 < j ∧ j < 31) → C'.1 j = C.1 j) ∧ (∀ j, j ≠ 0 → C'.2.2 j = C.2.2 j) ∧ ∀ j, j ≠ 1 ∧ j < 8 → C'.2.1 j = C.2.1 j
theorem CFl.rf : CFl C C := ⟨fun _ _ => rfl, fun _ _ => rfl, fun _ _ => rfl⟩
theorem CFl.tr {C2 : CS} (h : CFl C C') (h2 : CFl C' C2) : CFl C C2 := ⟨fun j hj => (h2.1 j hj).trans (h.1 j hj), fun j hj => (h2.2.1 j hj).trans (h.2.1 j hj), fun j hj => (h2.2.2 j hj).trans (h.2.2 j hj)⟩
theorem CFl.of (h : CFr C C') : CFl C C' := ⟨fun j hj => h.1 j (by omega), fun j _ => by rw [h.2.1], fun j hj => h.2.2 j hj.1⟩
theorem CFl.oa (h : CA C C') : CFl C C' := ⟨fun j hj => h.1 j (by omega), fun j _ => by rw [h.2.1], fun j hj => h.2.2 j hj.2⟩
/-- the lines read so far -/
def LnS (mu : List Nat) (T : TS) (C : CS) (ls : List LNV) : Prop := C.1 5 = nI (min ls.length 12) ∧ ∀ (i : Nat) (l : LNV), i < 12 → ls[i]? = some l → ∃ q, C.2.2 0 i = some q ∧ isLn mu T q l
theorem LnS.fr (h : LnS mu T C ls) (h2 : CFr C C') : LnS mu T C' ls := by
  refine ⟨(h2.1 5 (by decide)).trans h.1, ?_⟩
  rw [h2.2.1]; exact h.2
theorem Sv.c9 {f : Nat → Option Nat} {v : Int32} (h : Sv tp C r) : Sv tp (c0 (cr C 0 f) 5 v) r := by
  cases r with
  | inl e =>
    obtain ⟨h1, h2, h3, h4⟩ := h
    exact ⟨⟨by rw [c0_n (by decide)]; exact h1.1, h1.2⟩, by rw [c0_n (by decide)]; exact h2, by rw [c0_n (by decide)]; exact h3, by rw [c0_n (by decide)]; exact h4⟩
  | inr s =>
    obtain ⟨h1, h2, h3, h4⟩ := h
    refine ⟨⟨by rw [c0_n (by decide)]; exact h1.1, h1.2⟩, h2.fr (fun j hj => (c0_n (by omega)).trans rfl) (fun _ _ => rfl), h3, h4.k (c0_n (by decide)) (c0_n (by decide))⟩
/-- cells were added, so many, so large -/
def Ad (T T' : TS) (c : Nat) : Prop := Gr T T' ∧ T'.1 ≤ T.1 + 2 * c ∧ T'.2.1 ≤ T.2.1 + 607 * c ∧ ∀ q, 8 + T'.1 ≤ q → T'.2.2 q = T.2.2 q
theorem Ad.rf {c : Nat} : Ad T T c := ⟨Gr.rf T, by omega, by omega, fun _ _ => rfl⟩
def LnR (tp : List Nat) (mu : List Nat) (T' : TS) (C' : CS) (ls : List LNV) (P : Nat ⊕ (LNV × SN)) : Prop := match P with
  | .inl e => Sv tp C' (.inl e)
  | .inr x => Sv tp C' (.inr x.2) ∧ LnS mu T' C' (ls ++ [x.1])
theorem k_end {C7 C8 : CS} {R8 : Nat ⊕ (List STP × SN)} {v1 v2 v3 v4 v5 v6 : Nat} {P : Nat ⊕ (LNV × SN)} (h51 : 54 ≤ T.1) (hmu : ∀ x ∈ mu, x < 8 + T.1) (h0 : f_X2_needs N (hp X C7 M T) (some 11) 59 = some (hp X C8 M T)) (hW : SvW tp C8 R8) (hls : LnS mu T C8 ls) (hv1 : v1 < 2) (hl : P = bdr R8 fun x => .inr ((v1, v2, v3, v4, v5, v6, x.1), x.2)) : ∃ C' T', b_X2_readLine_125 N (hp X C7 M T) (some 11) (nI v1) (nI v2) (nI v3) (nI v4) (nI v5) (nI v6) = some (hp X C' M T') ∧ LnR tp mu T' C' ls P ∧ CFl C8 C' ∧ Ad T T' (min (ls.length + 1) 12 - min ls.length 12) := by
  obtain ⟨hsv, st, j1, j2, j3⟩ := hW.st
  by_cases hc : ls.length < 12
  · have h5 : C8.1 5 = nI ls.length := by rw [hls.1, Nat.min_eq_left (by omega)]
    obtain ⟨T', f, k1, k2, k3, k4, k5, k6, k7⟩ := k_store (v1 := v1) (v2 := v2) (v3 := v3) (v4 := v4) (v5 := v5) (v6 := v6) h51 h0 h5 hc j1 j2 hv1
    have hgr : Gr T T' := ⟨by omega, fun p hp' => k6 p (by omega) (by omega)⟩
    refine ⟨_, T', k1, ?_, ⟨fun j hj => c0_n (by omega), fun j hj => up_n _ _ hj, fun _ _ => rfl⟩, hgr, by omega, by omega, fun p hp' => k6 p (by omega) (by omega)⟩
    have hsv9 := hsv.c9 (f := va_up (C8.2.2 0) ls.length (some (9 + T.1))) (v := nI (ls.length + 1))
    rw [hl]
    cases R8 with
    | inl e => exact hsv9
    | inr x =>
      obtain ⟨hs1, hs2⟩ := j3 x rfl
      refine ⟨hsv9, ?_, fun i l hi hil => ?_⟩
      · rw [c0_s, List.length_append, List.length_singleton, Nat.min_eq_left (by omega)]
      · show ∃ q, up C8.2.2 0 (va_up (C8.2.2 0) ls.length (some (9 + T.1))) 0 i = some q ∧ _
        rw [up_s]
        rcases ap_some hil with ⟨g1, g2⟩ | ⟨g1, g2⟩
        · obtain ⟨q, a1, a2⟩ := hls.2 i l hi g1
          exact ⟨q, (vu_n (by omega)).trans a1, a2.ex (hgr.ex h51)⟩
        · subst g1
          subst g2
          refine ⟨9 + T.1, vu_s, ⟨fun z => by have := hmu _ z; omega, by omega⟩, 8 + T.1, f, ⟨fun z => by have := hmu _ z; omega, by omega⟩, (gD_hi (by omega)).trans k5, ?_, fun i y hy => ?_⟩
          · rw [gD_hi (by omega), k4, hs1]
          · rw [k7 i (by have := at_lt hy; rw [hs1]; exact this)]
            exact hs2 i y hy
  · have h5 : C8.1 5 = nI 12 := by rw [hls.1, Nat.min_eq_right (by omega)]
    refine ⟨C8, T, rl_12 h0 (gi_11_3.trans (congrArg some h5)) (by decide), ?_, CFl.rf, Ad.rf⟩
    rw [hl]
    cases R8 with
    | inl e => exact hsv
    | inr x =>
      refine ⟨hsv, ?_, fun i l hi hil => ?_⟩
      · rw [h5, List.length_append, Nat.min_eq_right (by omega)]
      · rcases ap_some hil with ⟨g1, g2⟩ | ⟨g1, g2⟩
        · exact hls.2 i l hi g1
        · omega
theorem k_line (hN : 700 ≤ N) (h51 : 54 ≤ T.1) (hmu : ∀ x ∈ mu, x < 8 + T.1) (h : Sv tp C (.inr s)) (hls : LnS mu T C ls) : ∃ C' T', f_X2_readLine N (hp X C M T) (some 11) = some (hp X C' M T') ∧ LnR tp mu T' C' ls (pLine tp ls.length s) ∧ CFl C C' ∧ Ad T T' (min (ls.length + 1) 12 - min ls.length 12) := by
  obtain ⟨C0, z1, z2, z3⟩ : ∃ C0, f_X2_readLine N (hp X C M T) (some 11) = b_X2_readLine_14 N (hp X C0 M T) (some 11) ∧ Sv tp C0 (.inr ((if 12 ≤ ls.length then nte s.1 3 s.2.2.2.1 else s.1), s.2)) ∧ CFr C C0 := by
    by_cases hc : 12 ≤ ls.length
    · rw [if_pos hc]
      have h5 : C.1 5 = nI 12 := by rw [hls.1, Nat.min_eq_right hc]
      obtain ⟨C0, k1, k2, k3⟩ := v_note (X := X) (M := M) (T := T) (c := 3) h (Or.inr rfl)
      exact ⟨C0, rl_n io_11 (gi_11_3.trans (congrArg some h5)) rfl k1, k2, k3⟩
    · rw [if_neg hc]
      have h5 : C.1 5 = nI ls.length := by rw [hls.1, Nat.min_eq_left (by omega)]
      exact ⟨C, rl_k io_11 (gi_11_3.trans (congrArg some h5)) (show ¬ nI ls.length = nI 12 from ne_nI (by omega) (by omega) (by decide)), h, CFr.rf⟩
  obtain ⟨v1, C1, a1, a2, a3, a4, a5⟩ := v_choice (X := X) (M := M) (T := T) (a := 303) (b := 304) hN z2 (by decide) (by decide) (by decide)
  obtain ⟨v2, C2, b1, b2, b3, b4, b5⟩ := v_choice (X := X) (M := M) (T := T) (a := 305) (b := 309) hN a2 (by decide) (by decide) (by decide)
  obtain ⟨v3, C3, c1, c2, c4, c5⟩ := v_num (X := X) (M := M) (T := T) (a := 1) (w := v2) (t := topW v2) (l := 5) hN b2 (topW_5 (by omega)) (fun b z => top_lt (Or.inl z)) ln_1 (by omega) (by decide) (fun C' => ai_1 (by omega))
  obtain ⟨v4, C4, d1, d2, d3, d4, d5⟩ := v_choice (X := X) (M := M) (T := T) (a := 310) (b := 314) hN c2 (by decide) (by decide) (by decide)
  obtain ⟨v5, C5, e1, e2, e3, e4, e5⟩ := v_what (X := X) (M := M) (T := T) hN d2 (fun A x => b_X2_readLine_92 N A (some 11) (nI v1) (nI v2) (nI v3) (nI v4) x)
  obtain ⟨v6, C6, f1, f2, f4, f5⟩ := v_num (X := X) (M := M) (T := T) (a := 2) (w := v5) (t := topA v5) (l := 4) hN e2 (topA_4 (by omega)) (fun b z => top_lt (Or.inr z)) ln_2 (by omega) (by decide) (fun C' => ai_2 (by omega))
  obtain ⟨C7, g1, g2, g3⟩ := v_when (X := X) (M := M) (T := T) hN f2 (fun B => b_X2_readLine_125 N B (some 11) (nI v1) (nI v2) (nI v3) (nI v4) (nI v5) (nI v6))
  obtain ⟨C8, i1, i2, i3⟩ := v_needsW (X := X) (M := M) (T := T) hN g2
  have link := ln_link (s0 := ((if 12 ≤ ls.length then nte s.1 3 s.2.2.2.1 else s.1), s.2)) rfl rfl rfl rfl rfl rfl rfl rfl a4 b4 c4 d4 e4 f4
  have fr : CFr C C8 := (((((((z3.tr a5).tr b5).tr c5).tr d5).tr e5).tr f5).tr g3).tr i3
  obtain ⟨C', T', j1, j2, j3, j4⟩ := k_end (P := pLine tp ls.length s) h51 hmu i1 i2 (hls.fr fr) (by omega) link
  refine ⟨C', T', ?_, j2, (CFl.of fr).tr j3, j4⟩
  refine z1.trans ((rl_14 a1 a3).trans ((rl_33 b1 c1 d1 e1).trans ((rl_92 f1 (pi_11_4 _) g1).trans j1)))
end VLK
