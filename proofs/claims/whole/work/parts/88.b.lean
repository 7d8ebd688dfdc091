/-! the class reads RULES -/
section VRB
variable {tp : List Nat}
theorem pls_ok (hb : ∀ x ∈ tp, x < 256) (hlen : tp.length ≤ 600) : ∀ (n : Nat) (ls : List LNV) (s : SN) (x : List LNV × SN), wfT tp s.2 → pLines tp n ls s = .inr x → x.2.1 = none → s.1 = none ∧ ∃ ex, x.1 = ls ++ ex ∧ (∀ l ∈ ex, WLn l) ∧ (ex = [] ∨ x.1.length ≤ 12) := by
  intro n
  induction n with
  | zero =>
    intro ls s x _ h hn
    cases h
    exact ⟨hn, [], (List.append_nil _).symm, fun l hl => (nomatch hl), Or.inl rfl⟩
  | succ n ih =>
    intro ls s x hw h hn
    unfold pLines at h
    split at h
    · obtain ⟨r, e1, e2⟩ := bdr_r h
      obtain ⟨g1, g2, g3, g4, g5⟩ := pl_ok hb hlen hw e1
      obtain ⟨i1, ex, i2, i3, i4⟩ := ih (ls ++ [r.1]) r.2 x g1 e2 hn
      obtain ⟨j1, j2, j3⟩ := g4 i1
      refine ⟨j1, r.1 :: ex, by rw [i2, List.append_assoc]; rfl, fun l hl => ?_, Or.inr ?_⟩
      · rcases List.mem_cons.mp hl with rfl | hl
        · exact j3
        · exact i3 l hl
      · rcases i4 with rfl | i4
        · rw [i2, List.append_nil, List.length_append, List.length_singleton]; omega
        · exact i4
    · split at h
      · cases h
        exact ⟨hn, [], (List.append_nil _).symm, fun l hl => (nomatch hl), Or.inl rfl⟩
      · cases h
theorem how_ok {s : SN} {x : Nat × SN} (hb : ∀ x ∈ tp, x < 256) (hw : wfT tp s.2) (h : pHow tp s = .inr x) : x.1 < 4 ∧ wfT tp x.2.2 ∧ x.2.1 = s.1 := by
  unfold pHow at h
  split at h
  · obtain ⟨r1, e1, h⟩ := bdr_r h
    obtain ⟨r2, e2, h⟩ := bdr_r h
    have w1 := nx_st hw hb
    obtain ⟨o1, g1, n1, t1⟩ := ch_ok (s := (s.1, nx tp s.2)) (x := r1.1) (s' := r1.2) hb w1.1 e1
    obtain ⟨o2, n2⟩ := need_ok hb o1.1 e2
    have h := Sum.inr.inj h
    subst h
    exact ⟨by show r1.1 < 4; omega, o2.1, n2.trans n1⟩
  · cases h
    exact ⟨show 0 < 4 by decide, hw, rfl⟩
theorem pr_ok {rs : RSV} (hb : ∀ x ∈ tp, x < 256) (hlen : tp.length ≤ 600) (h : pRules tp = .inr (rs, none)) : WRs rs := by
  unfold pRules at h
  obtain ⟨r, e1, h⟩ := bdr_r h
  obtain ⟨q, e2, h⟩ := bdr_r h
  have w0 := (tok_wf (tp := tp) (i := 0) (Nat.zero_le _) hb).1
  obtain ⟨g1, g2, g3⟩ := how_ok (s := (none, tok tp 0)) hb w0 e1
  have h := Sum.inr.inj h
  rw [Prod.mk.injEq] at h
  obtain ⟨h1, h2⟩ := h
  subst h1
  obtain ⟨i1, ex, i2, i3, i4⟩ := pls_ok hb hlen 601 [] r.2 q g2 e2 h2
  rw [List.nil_append] at i2
  refine ⟨g1, ?_, fun l hl => i3 l (by rw [← i2]; exact hl)⟩
  show q.1.length ≤ 12
  rcases i4 with rfl | i4
  · rw [i2]; decide
  · exact i4
end VRB
section VRC
variable {A A1 A2 A3 : LH} {q ql x8 x13 x15 : Option Nat} {N : Nat} {i n l how x : Int32}
theorem lr_e {k10 : LH → Option Nat → Option Nat → Int32 → Option (Option Nat × LH)} (h1 : gI A q 2 3 = some n) (h2 : n ≤ i) : b_X2_linesRead_14 N k10 A q ql i = some (ql, A) := by
  unfold b_X2_linesRead_14
  rw [bnd_eq h1, if_pos h2]
theorem lr_s {k10 : LH → Option Nat → Option Nat → Int32 → Option (Option Nat × LH)} (h1 : gI A q 2 3 = some n) (h2 : ¬ n ≤ i) (h3 : gR A q 2 1 = some x8) (h4 : ln6 A x8 = some l) (h5 : ¬ l ≤ i) (h6 : aR A x8 3 i = some x15) (h7 : sR A ql 3 0 i x15 = some A1) : b_X2_linesRead_14 N k10 A q ql i = k10 A1 q ql (i + 1) := by
  unfold b_X2_linesRead_14
  rw [bnd_eq h1, if_neg h2, bnd_eq h3, bnd_eq h4, if_neg h5, bnd_eq h3, bnd_eq h6, bnd_eq h7]
theorem lr_ab {p : Option (Option Nat × LH)} (h0 : isO A q 2 = true) (h1 : gI A q 2 3 = some n) (h2 : nR_ A 3 (mmx 0 n) = some A1) (h3 : l_X2_linesRead_14 N N A1 q (some (8 + hn A)) 0 = p) : f_X2_linesRead N A q = p := by
  unfold f_X2_linesRead b_X2_linesRead
  rw [if_pos h0, bnd_eq h1, bnd_eq h2, h3]
theorem r67_f (h1 : gI A q 2 5 = some x) (h2 : ¬ x = 0) : b_X2_read_67 N A q how = some (none, A) := by
  unfold b_X2_read_67
  rw [bnd_eq h1, if_neg h2]
theorem r67_t (h1 : gI A q 2 5 = some x) (h2 : x = 0) (h3 : f_X2_linesRead N (al A (.inr (3, [LI 0, LR none, LR none])) 3) q = some (ql, A2)) (h4 : f_X3_init N A2 (some (8 + hn A)) how ql = some A3) : b_X2_read_67 N A q how = some (some (8 + hn A), A3) := by
  unfold b_X2_read_67
  rw [bnd_eq h1, if_pos h2, bnd_eq h3, bnd_eq h4]
end VRC
section VRD
variable {X : XS} {C C' : CS} {M : MS} {T T' T0 : TS} {tp : List Nat} {N : Nat} {mu : List Nat} {ls : List LNV}
/-- the lines read, in a row of their own -/
theorem k_lr (N : Nat) {ql n : Nat} (h59 : 62 ≤ ql) (hn : n ≤ 12) (hc5 : C.1 5 = nI n) : ∀ (d i m : Nat) (T : TS) (fl : Nat → Option Nat), i + d = n → d < m → T.2.2 ql = .inl (3, n, .inr fl) → (∀ j, j < i → fl j = C.2.2 0 j) → (∀ j, j < n → ∃ p fs, C.2.2 0 j = some p ∧ 62 ≤ p ∧ p ≠ ql ∧ T.2.2 p = .inr (0, fs)) → ∃ fl' T', l_X2_linesRead_14 N m (hp X C M T) (some 11) (some ql) (nI i) = some (some ql, hp X C M T') ∧ T'.1 = T.1 ∧ T'.2.1 = T.2.1 ∧ T'.2.2 ql = .inl (3, n, .inr fl') ∧ (∀ p, p ≠ ql → T'.2.2 p = T.2.2 p) ∧ ∀ j, j < n → fl' j = C.2.2 0 j := by
  intro d
  induction d with
  | zero =>
    intro i m T fl hi hm hq hf _
    obtain ⟨m', rfl⟩ : ∃ m', m = m' + 1 := ⟨m - 1, by omega⟩
    refine ⟨fl, T, ?_, rfl, rfl, hq, fun _ _ => rfl, fun j hj => hf j (by omega)⟩
    show b_X2_linesRead_14 N _ _ _ _ _ = _
    exact lr_e (gi_11_3.trans (congrArg some hc5)) (nI_le (by omega) (by omega))
  | succ d ih =>
    intro i m T fl hi hm hq hf hp'
    obtain ⟨m', rfl⟩ : ∃ m', m = m' + 1 := ⟨m - 1, by omega⟩
    obtain ⟨p, fs, p1, p2, p3, p4⟩ := hp' i (by omega)
    have s1 := sR_hp (X := X) (C := C) (M := M) (k := i) (v := p) (ci := 0) h59 hq (by omega) (by omega) ((gc_hp p2).trans p4) (by omega)
    obtain ⟨fl', T', a1, a2, a3, a4, a5, a6⟩ := ih (i + 1) m' (sT T ql (.inl (3, n, .inr (va_up fl i (some p))))) (va_up fl i (some p)) (by omega) (by omega) sT_s (fun j hj => by
      by_cases e : j = i
      · rw [e, vu_s, p1]
      · rw [vu_n e]; exact hf j (by omega)) (fun j hj => by
      obtain ⟨p', fs', z1, z2, z3, z4⟩ := hp' j hj
      exact ⟨p', fs', z1, z2, z3, (sT_n z3).trans z4⟩)
    refine ⟨fl', T', ?_, a2, a3, a4, fun p hp => (a5 p hp).trans (sT_n hp), a6⟩
    show b_X2_linesRead_14 N _ _ _ _ _ = _
    rw [lr_s (gi_11_3.trans (congrArg some hc5)) (nI_ge (by omega) (by omega)) gr_11_1 ln_16 (show ¬ nI 12 ≤ nI i from nI_ge (by omega) (by decide)) ((ar_16 (by omega)).trans (congrArg some p1)) s1, nI_1]
    exact a1
/-- RULES are made of what was read -/
theorem k_made {how : Nat} (hN : 700 ≤ N) (h51 : 54 ≤ T.1) (hmu : ∀ x ∈ mu, x < 8 + T.1) (hls : LnS mu T C ls) (h12 : ls.length ≤ 12) (hW : ∀ l ∈ ls, WLn l) (hh : how < 4) (h7 : C.1 7 = 0) : ∃ T', b_X2_read_67 N (hp X C M T) (some 11) (nI how) = some (some (8 + T.1), hp X C M T') ∧ isRl mu T' (8 + T.1) (how, ls) ∧ Gr T T' ∧ T'.1 = T.1 + 3 ∧ T'.2.1 ≤ T.2.1 + 27 ∧ ∀ q, 8 + T'.1 ≤ q → T'.2.2 q = T.2.2 q := by
  have hc5 : C.1 5 = nI ls.length := by rw [hls.1, Nat.min_eq_left h12]
  obtain ⟨T1, hT1⟩ : ∃ T1, T1 = aT (aT T (.inr (3, [LI 0, LR none, LR none])) 3) (.inl (3, ls.length, .inr fun _ => none)) ls.length := ⟨_, rfl⟩
  have t1 : T1.1 = T.1 + 2 := by rw [hT1]; rfl
  have t2 : T1.2.1 = T.2.1 + 3 + ls.length := by rw [hT1]; rfl
  have gr1 : Gr T T1 := by rw [hT1]; exact (Gr.rf T).aT.aT
  have c8 : T1.2.2 (8 + T.1) = .inr (3, [LI 0, LR none, LR none]) := by
    rw [hT1, aT_n (by rw [aT_1]; omega), aT_s]
  have c9 : T1.2.2 (9 + T.1) = .inl (3, ls.length, .inr fun _ => none) := by
    rw [hT1, show 9 + T.1 = 8 + (aT T (.inr (3, [LI 0, LR none, LR none])) 3).1 by rw [aT_1]; omega, aT_s]
  have hln : ∀ (i : Nat) (l : LNV), ls[i]? = some l → ∃ p, C.2.2 0 i = some p ∧ isLn mu T p l := fun i l hl => hls.2 i l (by have := at_lt hl; omega) hl
  obtain ⟨fl, T2, a1, a2, a3, a4, a5, a6⟩ := k_lr (X := X) (M := M) (C := C) N (ql := 9 + T.1) (n := ls.length) (by omega) h12 hc5 ls.length 0 N T1 (fun _ => none) (by omega) (by omega) c9 (fun j hj => absurd hj (Nat.not_lt_zero j)) (fun j hj => by
    obtain ⟨l, hl⟩ := at_ex ls hj
    obtain ⟨p, p1, p2⟩ := hln j l hl
    obtain ⟨p59, p8⟩ := p2.hi
    obtain ⟨h0, w, f, h1, h2, h3, h4⟩ := p2
    rw [gD_hi p59] at h2
    exact ⟨p, _, p1, p59, by omega, (gr1.2 p p8).trans h2⟩)
  have gr2 : Gr T T2 := ⟨by omega, fun p hp' => (a5 p (by omega)).trans (gr1.2 p hp')⟩
  have hA : LsA T2 (9 + T.1) ls.length ls := by
    refine ⟨by omega, rfl, fl, a4, fun i l hl => ?_⟩
    have hi := at_lt hl
    obtain ⟨p, p1, p2⟩ := hln i l hl
    obtain ⟨p59, p8⟩ := p2.hi
    obtain ⟨h0, w, f, h1, h2, h3, h4⟩ := p2
    rw [gD_hi p59] at h2
    exact ⟨(hW l (List.mem_of_getElem? hl)).1, p, _, (a6 i hi).trans p1, p59, (gr2.2 p p8).trans h2⟩
  obtain ⟨fo, T3, b1, b2, b3, b4, b5, b6, b7⟩ := k_rules_init (X := X) (C := C) (M := M) N (by omega) (q := 8 + T.1) (how := how) (by omega) (by omega) (by omega) ((a5 _ (by omega)).trans c8) hA h12 hh
  have gr3 : Gr T T3 := ⟨by omega, fun p hp' => (b6 p (by omega) (by omega)).trans (gr2.2 p hp')⟩
  have hhn : 8 + hn (hp X C M T) = 8 + T.1 := rfl
  have hal : al (hp X C M T) (.inr (3, [LI 0, LR none, LR none])) 3 = hp X C M (aT T (.inr (3, [LI 0, LR none, LR none])) 3) := al_hp h51
  have hnr : nR_ (hp X C M (aT T (.inr (3, [LI 0, LR none, LR none])) 3)) 3 (mmx 0 (nI ls.length)) = some (hp X C M T1) := by rw [mmx_n (by omega), hT1]; exact nR_hp (by rw [aT_1]; omega) (by omega)
  have h8 : 8 + hn (hp X C M (aT T (.inr (3, [LI 0, LR none, LR none])) 3)) = 9 + T.1 := by rw [hn_hp, aT_1]; omega
  have hlr : f_X2_linesRead N (al (hp X C M T) (.inr (3, [LI 0, LR none, LR none])) 3) (some 11) = some (some (9 + T.1), hp X C M T2) := by
    rw [hal]
    exact lr_ab io_11 (gi_11_3.trans (congrArg some hc5)) hnr (by rw [h8]; exact a1)
  refine ⟨T3, (r67_t (gi_11_5.trans (congrArg some h7)) rfl hlr (by rw [hhn]; exact b1)).trans rfl, ?_, gr3, by omega, by omega, fun p hp' => ?_⟩
  · have nm : ∀ p, 8 + T.1 ≤ p → p < 8 + T3.1 → im mu T3 p := fun p h1 h2 => ⟨fun z => by have := hmu _ z; omega, by omega⟩
    refine ⟨nm _ (by omega) (by omega), 9 + T.1, 8 + T2.1, fl, fo, nm _ (by omega) (by omega), nm _ (by omega) (by omega), (gD_hi (by omega)).trans b4, ?_, (gD_hi (by omega)).trans b5, fun i l hl => ?_, b7⟩
    · rw [gD_hi (by omega), b6 _ (by omega) (by omega)]; exact a4
    · obtain ⟨p, p1, p2⟩ := hln i l hl
      exact ⟨p, (a6 i (at_lt hl)).trans p1, p2.ex (gr3.ex h51)⟩
  · rw [b6 p (by omega) (by omega), a5 p (by omega), hT1, aT_n (by rw [aT_1]; omega), aT_n (by omega)]
end VRD
