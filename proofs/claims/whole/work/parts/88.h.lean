/-! the reference reads a line: the whole -/
section MLH
variable {X : XS} {C : CS} {M M' : MS} {T : TS} {tp : List Nat} {s : SN} {N : Nat} {D : List (Nat × Nat)} {ls : List LNV}
theorem LnM.zc {F : Option (Int32 × LH)} {P : Nat ⊕ (LNV × SN)} (h : LnM tp X C T M ls F P) : LnM tp X C T M ls (zc F) P := by
  cases P with
  | inl e =>
    obtain ⟨M1, h1, h2⟩ := h
    exact ⟨M1, by rw [h1, zc_0], h2⟩
  | inr x =>
    obtain ⟨M1, D1, h1, h2⟩ := h
    exact ⟨M1, D1, by rw [h1, zc_1], h2⟩
theorem who_ok {x : (Nat × Nat) × SN} (hb : ∀ x ∈ tp, x < 256) (hw : wfT tp s.2) (h : pWho tp s = .inr x) : okS' tp s x.2 := by
  unfold pWho at h
  obtain ⟨r1, e1, h⟩ := bdr_r h
  obtain ⟨r2, e2, h⟩ := bdr_r h
  obtain ⟨o1, -⟩ := ch_ok (x := r1.1) (s' := r1.2) hb hw e1
  obtain ⟨o2, -⟩ := num_ok (x := r2.1) (s' := r2.2) hb o1.1 (fun b z => top_lt (Or.inl z)) e2
  have h := Sum.inr.inj h
  subst h
  exact o1.tr o2
theorem wht_ok {x : (Nat × Nat) × SN} (hb : ∀ x ∈ tp, x < 256) (hw : wfT tp s.2) (h : pWhat tp s = .inr x) : okS' tp s x.2 := by
  unfold pWhat at h
  obtain ⟨r1, e1, h⟩ := bdr_r h
  obtain ⟨r2, e2, h⟩ := bdr_r h
  obtain ⟨o1, -⟩ := what_ok (x := r1.1) (s' := r1.2) hb hw e1
  obtain ⟨o2, -⟩ := num_ok (x := r2.1) (s' := r2.2) hb o1.1 (fun b z => top_lt (Or.inr z)) e2
  have h := Sum.inr.inj h
  subst h
  exact o1.tr o2
/-- from the first word on -/
theorem m_85 {k v1 : Nat} {M0 : MS} {n : NT} {τ : TOK} (hN : 700 ≤ N) (h : RLv tp M (n, τ) D) (hD : D.length ≤ τ.2.2.1) (hs : RLs M0 D ls) (hk : k = min ls.length 12) (hfr : Fr2 M0 M) (h32 : M.2.2 32 = M0.2.2 32) : LnM tp X C T M0 ls (b_X11_oneLine_85 N (hp X C M T) (some 35) (nI (8 * k)) (nI v1) (nI (8 * k)) (some 52)) (bdr (pWho tp (n, nx tp τ)) fun w => bdr (sCh tp 310 314 w.2) fun a => bdr (pWhat tp a.2) fun o => bdr (sWhen tp o.2) fun r7 => bdr (sNeed tp 59 r7.2) fun r8 => .inr ((v1, w.1.1, w.1.2, a.1, o.1.1, o.1.2, r7.1), r8)) := by
  have hk12 : k ≤ 12 := by omega
  have hb := h.1.1.2.2
  have s0 : sI (hp X C M T) (some 52) 0 (nI (8 * k)) (nI v1) = some (hp X C (ma M 32 (upd (M.2.2 32) (8 * k) (nI v1))) T) := si_52 (by omega)
  obtain ⟨M1, hM1⟩ : ∃ M1, M1 = ma M 32 (upd (M.2.2 32) (8 * k) (nI v1)) := ⟨_, rfl⟩
  rw [← hM1] at s0
  have r1 : M1.2.2 32 = upd (M.2.2 32) (8 * k) (nI v1) := by rw [hM1, ma_22, up_s]
  have lv1 : RLv tp M1 (n, τ) D := by rw [hM1]; exact h.r32
  have fr1 : Fr2 M0 M1 := by rw [hM1]; exact hfr.tr fr_32
  obtain ⟨M2, n1, n2, n3, n4, n5⟩ := m_nx (X := X) (C := C) (T := T) hN lv1
  have fr2 := fr1.tr n3
  have a0 : M2.2.2 32 (8 * k) = nI v1 := by rw [n4, r1]; exact if_pos rfl
  have aj : ∀ j, j ≠ 8 * k → M2.2.2 32 j = M0.2.2 32 j := fun j hj => by
    rw [n4, r1]
    refine (if_neg hj).trans ?_
    rw [h32]
  have pl1 : τ.2.2.1 ≤ (nx tp τ).2.2.1 := (nx_st h.1.2.2.1 hb).2.1
  have hw := m_who (X := X) (C := C) (T := T) hN hk12 n2
  cases hW : pWho tp (n, nx tp τ) with
  | inl e =>
    rw [show (bdr (sCh tp 305 309 (n, nx tp τ)) fun r => bdr (sNum tp (topW r.1) r.2) fun r3 => .inr ((r.1, r3.1), r3.2) : Nat ⊕ ((Nat × Nat) × SN)) = .inl e from hW] at hw
    obtain ⟨M3, w1, w2, w3⟩ := hw
    exact ⟨M3, bl_1 s0 n1 w1 rfl, w2, Fr3.of (fr2.tr w3)⟩
  | inr w =>
    have ow := who_ok (s := (n, nx tp τ)) hb n2.1.2.2.1 hW
    rw [show (bdr (sCh tp 305 309 (n, nx tp τ)) fun r => bdr (sNum tp (topW r.1) r.2) fun r3 => .inr ((r.1, r3.1), r3.2) : Nat ⊕ ((Nat × Nat) × SN)) = .inr w from hW] at hw
    obtain ⟨M3, w1, w2, w3, w4, w5, w6⟩ := hw
    have fr3 := fr2.tr w3
    show LnM tp X C T M0 ls _ (bdr (sCh tp 310 314 w.2) _)
    have ha := m_act (X := X) (C := C) (T := T) hN hk12 w2
    cases hA : sCh tp 310 314 w.2 with
    | inl e =>
      rw [hA] at ha
      obtain ⟨M4, a1, a2, a3⟩ := ha
      exact ⟨M4, bl_2 s0 n1 w1 a1 rfl, a2, Fr3.of (fr3.tr a3)⟩
    | inr a =>
      have oa := (ch_ok (x := a.1) (s' := a.2) hb w2.1.2.2.1 hA).1
      rw [hA] at ha
      obtain ⟨M4, a1, a2, a3, a4, a5⟩ := ha
      have fr4 := fr3.tr a3
      show LnM tp X C T M0 ls _ (bdr (pWhat tp a.2) _)
      have ho := m_what (X := X) (C := C) (T := T) hN hk12 a2
      cases hO : pWhat tp a.2 with
      | inl e =>
        rw [show (bdr (sWhat tp a.2) fun r => bdr (sNum tp (topA r.1) r.2) fun r3 => .inr ((r.1, r3.1), r3.2) : Nat ⊕ ((Nat × Nat) × SN)) = .inl e from hO] at ho
        obtain ⟨M5, o1, o2, o3⟩ := ho
        exact ⟨M5, bl_3 s0 n1 w1 a1 o1 rfl, o2, Fr3.of (fr4.tr o3)⟩
      | inr o =>
        have oo := wht_ok hb a2.1.2.2.1 hO
        rw [show (bdr (sWhat tp a.2) fun r => bdr (sNum tp (topA r.1) r.2) fun r3 => .inr ((r.1, r3.1), r3.2) : Nat ⊕ ((Nat × Nat) × SN)) = .inr o from hO] at ho
        obtain ⟨M5, o1, o2, o3, o4, o5, o6⟩ := ho
        have fr5 := fr4.tr o3
        have s6 : sI (hp X C M5 T) (some 52) 0 (nI (8 * k) + 6) (-1) = some (hp X C (ma M5 32 (upd (M5.2.2 32) (8 * k + 6) (-1))) T) := by
          rw [show nI (8 * k) + (6 : Int32) = nI (8 * k + 6) from ad8]; exact si_52 (by omega)
        obtain ⟨M6, hM6⟩ : ∃ M6, M6 = ma M5 32 (upd (M5.2.2 32) (8 * k + 6) (-1)) := ⟨_, rfl⟩
        rw [← hM6] at s6
        have r6 : M6.2.2 32 = upd (M5.2.2 32) (8 * k + 6) (-1) := by rw [hM6, ma_22, up_s]
        have lv6 : RLv tp M6 o.2 D := by rw [hM6]; exact o2.r32
        have fr6 : Fr2 M0 M6 := by rw [hM6]; exact fr5.tr fr_32
        have v0 : M5.2.2 32 (8 * k) = nI v1 := by rw [o6 _ (by omega) (by omega), a5 _ (by omega), w6 _ (by omega) (by omega)]; exact a0
        have v1' : M5.2.2 32 (8 * k + 1) = nI w.1.1 := by rw [o6 _ (by omega) (by omega), a5 _ (by omega)]; exact w4
        have v2 : M5.2.2 32 (8 * k + 2) = nI w.1.2 := by rw [o6 _ (by omega) (by omega), a5 _ (by omega)]; exact w5
        have v3 : M5.2.2 32 (8 * k + 3) = nI a.1 := by rw [o6 _ (by omega) (by omega)]; exact a4
        have vj : ∀ j, j < 8 * k → M5.2.2 32 j = M0.2.2 32 j := fun j hj => by rw [o6 _ (by omega) (by omega), a5 _ (by omega), w6 _ (by omega) (by omega)]; exact aj j (by omega)
        have q1 : τ.2.2.1 ≤ o.2.2.2.2.1 := by
          have e1 : (nx tp τ).2.2.1 ≤ w.2.2.2.2.1 := ow.2.1
          have e2 := oa.2.1
          have e3 := oo.2.1
          omega
        show LnM tp X C T M0 ls _ (bdr (sWhen tp o.2) _)
        cases hV : sWhen tp o.2 with
        | inl e =>
          have hk18 : o.2.2.1 = 318 := by
            unfold sWhen at hV
            split at hV
            · assumption
            · cases hV
          have t18 := r_word (X := X) (C := C) (T := T) (i := 18) lv6.1.2.1 (by decide) rfl W_18 hk18
          obtain ⟨M7, m1, m2, m3, m4, m5⟩ := m_nx (X := X) (C := C) (T := T) hN lv6
          have s8 : sI (hp X C M7 T) (some 52) 0 (nI (8 * k) + 6) (nI D.length) = some (hp X C (ma M7 32 (upd (M7.2.2 32) (8 * k + 6) (nI D.length))) T) := by
            rw [show nI (8 * k) + (6 : Int32) = nI (8 * k + 6) from ad8]; exact si_52 (by omega)
          have lv8 := m2.r32 (f := upd (M7.2.2 32) (8 * k + 6) (nI D.length))
          have pl8 := (nx_st lv6.1.2.2.1 hb).2.1
          have hE := rp_E (X := X) (C := C) (T := T) hN hb 6 8 (by decide) (by decide) _ (nx tp o.2.2) D lv8.1 (by omega) lv8.2.1
          have hpe : pE tp 6 (nx tp o.2.2) = .inl e := by
            unfold sWhen at hV
            rw [if_pos hk18] at hV
            cases hx : pE tp 6 (nx tp o.2.2) with
            | inl e' => rw [hx] at hV; cases hV; rfl
            | inr p => rw [hx] at hV; cases hV
          rw [hpe] at hE
          obtain ⟨M9, e1, e2, e3⟩ := hE
          refine ⟨M9, bl_5 s0 n1 w1 a1 o1 gr_35_32 s6 t18 m1 gr_35_32 (gi_35_31.trans (congrArg some m2.1.2.2.2.1)) s8 ((bnd_eq e1).trans (if_pos rfl)), ⟨e2.2.1, e2.2.2.1⟩, Fr3.of (((fr6.tr m3).tr fr_32).tr (Fr2.of e3).1)⟩
        | inr x =>
          obtain ⟨x7, s7⟩ := x
          obtain ⟨g1, g2, g3, g4, g5, g6⟩ := when_ok hb lv6.1.2.2.1 hV
          show LnM tp X C T M0 ls _ (bdr (sNeed tp 59 s7) fun r8 => .inr ((v1, w.1.1, w.1.2, a.1, o.1.1, o.1.2, x7), r8))
          by_cases hk18 : o.2.2.1 = 318
          · have t18 := r_word (X := X) (C := C) (T := T) (i := 18) lv6.1.2.1 (by decide) rfl W_18 hk18
            obtain ⟨M7, m1, m2, m3, m4, m5⟩ := m_nx (X := X) (C := C) (T := T) hN lv6
            have s8 : sI (hp X C M7 T) (some 52) 0 (nI (8 * k) + 6) (nI D.length) = some (hp X C (ma M7 32 (upd (M7.2.2 32) (8 * k + 6) (nI D.length))) T) := by
              rw [show nI (8 * k) + (6 : Int32) = nI (8 * k + 6) from ad8]; exact si_52 (by omega)
            obtain ⟨M8, hM8⟩ : ∃ M8, M8 = ma M7 32 (upd (M7.2.2 32) (8 * k + 6) (nI D.length)) := ⟨_, rfl⟩
            rw [← hM8] at s8
            have r8 : M8.2.2 32 = upd (M7.2.2 32) (8 * k + 6) (nI D.length) := by rw [hM8, ma_22, up_s]
            have lv8 : RLv tp M8 (o.2.1, nx tp o.2.2) D := by rw [hM8]; exact m2.r32
            have fr8 : Fr2 M0 M8 := by rw [hM8]; exact (fr6.tr m3).tr fr_32
            have pl8 := (nx_st lv6.1.2.2.1 hb).2.1
            have hE := rp_E (X := X) (C := C) (T := T) hN hb 6 8 (by decide) (by decide) _ (nx tp o.2.2) D lv8.1 (by omega) lv8.2.1
            cases hpe : pE tp 6 (nx tp o.2.2) with
            | inl e =>
              unfold sWhen at hV
              rw [if_pos hk18, hpe] at hV
              cases hV
            | inr p =>
              have hV' : x7 = p.1 ∧ s7 = (o.2.1, p.2) := by
                unfold sWhen at hV
                rw [if_pos hk18, hpe] at hV
                cases hV
                exact ⟨rfl, rfl⟩
              obtain ⟨rfl, rfl⟩ := hV'
              rw [hpe] at hE
              obtain ⟨M9, e1, e2, e3⟩ := hE
              have hne : p.1 ≠ [] := (ok_E hb 6 _ p.1 p.2 lv8.1.2.2.1 hpe).2.2.2.1.1
              have g6' : o.2.2.2.2.1 + (p.1.flatMap expS).length + 2 ≤ p.2.2.2.1 := g6 hne
              have lp : p.2.2.2.1 ≤ 600 := e2.le
              obtain ⟨M10, f1, f2, f3⟩ := r_put (X := X) (C := C) (T := T) (a := 13) (b := 0) e2 (by rw [List.length_append]; omega) (by decide)
              have lv10 : RLv tp M10 (o.2.1, p.2) (D ++ mcode p.1) := by
                have := lv8.mk f2 (e3.tr f3)
                rw [List.append_assoc] at this
                exact this
              have fr10 : Fr2 M0 M10 := fr8.tr (Fr2.of (e3.tr f3).2.2).1
              have r10 : M10.2.2 32 = M8.2.2 32 := (Fr2.of (e3.tr f3).2.2).2
              have ov : ∀ j, j ≠ 8 * k + 6 → M10.2.2 32 j = M5.2.2 32 j := fun j hj => by
                rw [r10, r8]
                refine (if_neg hj).trans ?_
                rw [m4, r6]
                exact if_neg hj
              have ml : (mcode p.1).length = (p.1.flatMap expS).length + 1 := by unfold mcode; rw [List.length_append]; rfl
              have fin := m_169 (X := X) (C := C) (T := T) (k := k) (w := (v1, w.1.1, w.1.2, a.1, o.1.1, o.1.2, p.1)) (D0 := D) (E := mcode p.1) (M0 := M0) (ls := ls) hN lv10 (by rw [List.length_append, ml]; show _ ≤ p.2.2.2.1; omega) rfl hs hk fr10 (fun j hj => by rw [ov j (by omega)]; exact vj j hj) (fun _ => ⟨(ov _ (by omega)).trans v0, (ov _ (by omega)).trans v1', (ov _ (by omega)).trans v2, (ov _ (by omega)).trans v3, (ov _ (by omega)).trans o4, (ov _ (by omega)).trans o5, Or.inr ⟨hne, D.length, by rw [r10, r8]; exact if_pos rfl, by rw [List.length_append]; exact Nat.le_refl _, fun i x hx => by rw [List.getElem?_append_right (by omega), Nat.add_sub_cancel_left]; exact hx⟩⟩)
              have hb5 := bl_5 s0 n1 w1 a1 o1 gr_35_32 s6 t18 m1 gr_35_32 (gi_35_31.trans (congrArg some m2.1.2.2.2.1)) s8 ((bnd_eq e1).trans ((if_neg i1_ne).trans (bnd_eq f1)))
              rw [hb5]
              exact fin
          · have t18 := r_word_f (X := X) (C := C) (T := T) (i := 18) lv6.1.2.1 (by decide) rfl W_18 hk18
            have hV' : x7 = [] ∧ s7 = o.2 := by
              unfold sWhen at hV
              rw [if_neg hk18] at hV
              cases hV
              exact ⟨rfl, rfl⟩
            obtain ⟨rfl, rfl⟩ := hV'
            have ov : ∀ j, j ≠ 8 * k + 6 → M6.2.2 32 j = M5.2.2 32 j := fun j hj => by
              rw [r6]
              exact if_neg hj
            rw [bl_4 s0 n1 w1 a1 o1 gr_35_32 s6 t18 rfl]
            exact m_169 (X := X) (C := C) (T := T) (k := k) (w := (v1, w.1.1, w.1.2, a.1, o.1.1, o.1.2, [])) (D0 := D) (E := []) (M0 := M0) (ls := ls) hN lv6 (by omega) (List.append_nil _).symm hs hk fr6 (fun j hj => by rw [ov j (by omega)]; exact vj j hj) (fun _ => ⟨(ov _ (by omega)).trans v0, (ov _ (by omega)).trans v1', (ov _ (by omega)).trans v2, (ov _ (by omega)).trans v3, (ov _ (by omega)).trans o4, (ov _ (by omega)).trans o5, Or.inl ⟨rfl, by rw [r6]; exact if_pos rfl⟩⟩)
end MLH
