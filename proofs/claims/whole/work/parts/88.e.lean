/-! the reference's who, act, what, beginning -/
section MSC
variable {X : XS} {C : CS} {M M' : MS} {T : TS} {tp : List Nat} {s : SN} {N : Nat} {D : List (Nat × Nat)}
theorem nI_nm {k : Nat} (h : k < 1000) : ¬ nI k = -1 := fun z => by
  have := nI_pos (n := k) (by omega)
  rw [z] at this
  exact this (by decide)
/-- well: M' stands for it, V says more; not: the place is told -/
def StR {α : Type} (tp : List Nat) (X : XS) (C : CS) (T : TS) (M : MS) (D : List (Nat × Nat)) (F : Option (Int32 × LH)) (V : α → MS → Prop) (P : Nat ⊕ (α × SN)) : Prop := match P with
  | .inl e => ∃ M', F = some (0, hp X C M' T) ∧ RDd M' e ∧ Fr2 M M'
  | .inr x => ∃ M', F = some (1, hp X C M' T) ∧ RLv tp M' x.2 D ∧ Fr2 M M' ∧ V x.1 M'
theorem m_number {b : Nat} (hN : 700 ≤ N) (hb : b < 1000) (h : RLv tp M s D) : StR tp X C T M D (f_X11_number N (hp X C M T) (some 35) (nI b)) (fun x M' => M'.1 35 = nI x ∧ M'.2.2 32 = M.2.2 32) (sNum tp (some b) s) := by
  show StR tp X C T M D _ _ (if s.2.1 = 1 then .inr (s.2.2.1, (if s.2.2.1 ≤ b then s.1 else nte s.1 2 s.2.2.2.1), nx tp s.2) else .inl s.2.2.2.1)
  by_cases h1 : s.2.1 = 1
  · rw [if_pos h1]
    have h3 := (tm_num h.1.2.1).mpr h1
    have hv := tm_val h.1.2.1 h1
    have hn := h.1.2.2.1.2.2.2.2.1 h1
    have hm := h.m0 (k := 35) (v := nI s.2.2.1) (by decide)
    by_cases h5 : s.2.2.1 ≤ b
    · obtain ⟨M1, k1, k2, k3, k4, k5⟩ := m_nx (X := X) (C := C) (T := T) hN hm
      refine ⟨M1, nu_a io_35 gi_35_21 h3 (gi_35_22.trans (congrArg some hv)) (pi_35_35 _) (by rw [gi_35_35, m0_s]) (nI_le h5 (by omega)) k1, ?_, (Fr2.rf.m0 (by decide)).tr k3, k5.trans m0_s, k4⟩
      show RLv tp M1 ((if s.2.2.1 ≤ b then s.1 else nte s.1 2 s.2.2.2.1), nx tp s.2) D
      rw [if_pos h5]; exact k2
    · obtain ⟨M1, k1, k2, k3, k4, k5⟩ := m_note (X := X) (C := C) (T := T) (c := 2) hm (Or.inl rfl)
      obtain ⟨M2, l1, l2, l3, l4, l5⟩ := m_nx (X := X) (C := C) (T := T) hN k2
      refine ⟨M2, nu_b io_35 gi_35_21 h3 (gi_35_22.trans (congrArg some hv)) (pi_35_35 _) (by rw [gi_35_35, m0_s]) (nI_ge (by omega) (by omega)) (gi_35_20.trans (congrArg some hm.1.2.1.2.1)) k1 l1, ?_, ((Fr2.rf.m0 (by decide)).tr k3).tr l3, l5.trans (k5.trans m0_s), l4.trans k4⟩
      show RLv tp M2 ((if s.2.2.1 ≤ b then s.1 else nte s.1 2 s.2.2.2.1), nx tp s.2) D
      rw [if_neg h5]; exact l2
  · rw [if_neg h1]
    obtain ⟨M1, k1, k2, k3⟩ := m_wrong (X := X) (C := C) (T := T) h
    exact ⟨M1, nu_w io_35 gi_35_21 (fun z => h1 ((tm_num h.1.2.1).mp z)) k1, k2, k3⟩
theorem ad8 {k a : Nat} : nI (8 * k) + nI a = nI (8 * k + a) := nI_add _ _
/-- behind the word: its row, its number -/
theorem m_who (hN : 700 ≤ N) {k : Nat} (hk : k ≤ 12) (h : RLv tp M s D) : StR tp X C T M D (f_X11_who N (hp X C M T) (some 35) (nI (8 * k))) (fun (x : Nat × Nat) M' => M'.2.2 32 (8 * k + 1) = nI x.1 ∧ M'.2.2 32 (8 * k + 2) = nI x.2 ∧ ∀ j, j ≠ 8 * k + 1 → j ≠ 8 * k + 2 → M'.2.2 32 j = M.2.2 32 j) (bdr (sCh tp 305 309 s) fun r => bdr (sNum tp (topW r.1) r.2) fun r3 => .inr ((r.1, r3.1), r3.2)) := by
  have ab := wh_ab (N := N) (v := nI (8 * k)) io_35 (r_wd (X := X) (C := C) (T := T) h.1.2.1 (i := 5) (by decide) rfl W_5) (r_wd h.1.2.1 (i := 6) (by decide) rfl W_6) (r_wd h.1.2.1 (i := 7) (by decide) rfl W_7) (r_wd h.1.2.1 (i := 8) (by decide) rfl W_8) (r_wd h.1.2.1 (i := 9) (by decide) rfl W_9)
  rw [ite10, ite10, ite10, ite10, ite10] at ab
  by_cases hc : 305 ≤ s.2.1 ∧ s.2.1 ≤ 309
  · obtain ⟨c, hc5⟩ : ∃ c, s.2.1 = 305 + c := ⟨s.2.1 - 305, by omega⟩
    have hq : sCh tp 305 309 s = .inr (c, s.1, nx tp s.2) := by
      have e : s.2.1 - 305 = c := by omega
      unfold sCh
      rw [if_pos hc, e]
    have hcl : c < 5 := by omega
    rw [hq]
    have ab' : f_X11_who N (hp X C M T) (some 35) (nI (8 * k)) = zc (b_X11_who_71 N (hp X C M T) (some 35) (nI (8 * k)) (nI c)) := by
      rw [ab]
      rcases (show c = 0 ∨ c = 1 ∨ c = 2 ∨ c = 3 ∨ c = 4 by omega) with rfl | rfl | rfl | rfl | rfl
      · rw [if_pos (show s.2.1 = 300 + 5 by omega)]; rfl
      · rw [if_neg (show ¬ s.2.1 = 300 + 5 by omega), if_pos (show s.2.1 = 300 + 6 by omega)]; rfl
      · rw [if_neg (show ¬ s.2.1 = 300 + 5 by omega), if_neg (show ¬ s.2.1 = 300 + 6 by omega), if_pos (show s.2.1 = 300 + 7 by omega)]; rfl
      · rw [if_neg (show ¬ s.2.1 = 300 + 5 by omega), if_neg (show ¬ s.2.1 = 300 + 6 by omega), if_neg (show ¬ s.2.1 = 300 + 7 by omega), if_pos (show s.2.1 = 300 + 8 by omega)]; rfl
      · rw [if_neg (show ¬ s.2.1 = 300 + 5 by omega), if_neg (show ¬ s.2.1 = 300 + 6 by omega), if_neg (show ¬ s.2.1 = 300 + 7 by omega), if_neg (show ¬ s.2.1 = 300 + 8 by omega), if_pos (show s.2.1 = 300 + 9 by omega)]; rfl
    rw [ab']
    show StR tp X C T M D _ _ (bdr (sNum tp (topW c) (s.1, nx tp s.2)) fun r3 => .inr ((c, r3.1), r3.2))
    obtain ⟨M1, k1, k2, k3, k4, k5⟩ := m_nx (X := X) (C := C) (T := T) hN h
    have s1 : sI (hp X C M1 T) (some 52) 0 (nI (8 * k) + 1) (nI c) = some (hp X C (ma M1 32 (upd (M1.2.2 32) (8 * k + 1) (nI c))) T) := by
      rw [show nI (8 * k) + (1 : Int32) = nI (8 * k + 1) from ad8]; exact si_52 (by omega)
    obtain ⟨M2, hM2⟩ : ∃ M2, M2 = ma M1 32 (upd (M1.2.2 32) (8 * k + 1) (nI c)) := ⟨_, rfl⟩
    rw [← hM2] at s1
    have s2 : sI (hp X C M2 T) (some 52) 0 (nI (8 * k) + 2) 0 = some (hp X C (ma M2 32 (upd (M2.2.2 32) (8 * k + 2) 0)) T) := by
      rw [show nI (8 * k) + (2 : Int32) = nI (8 * k + 2) from ad8]; exact si_52 (by omega)
    have r2 : M2.2.2 32 = upd (M1.2.2 32) (8 * k + 1) (nI c) := by rw [hM2, ma_22, up_s]
    obtain ⟨M3, hM3⟩ : ∃ M3, M3 = ma M2 32 (upd (M2.2.2 32) (8 * k + 2) 0) := ⟨_, rfl⟩
    rw [← hM3] at s2
    have r3 : M3.2.2 32 = upd (M2.2.2 32) (8 * k + 2) 0 := by rw [hM3, ma_22, up_s]
    have lv3 : RLv tp M3 (s.1, nx tp s.2) D := by rw [hM3, hM2]; exact k2.r32.r32
    have fr3 : Fr2 M M3 := by rw [hM3, hM2]; exact (k3.tr fr_32).tr fr_32
    have v1 : M3.2.2 32 (8 * k + 1) = nI c := by
      rw [r3]
      refine (if_neg (by omega)).trans ?_
      rw [r2]; exact if_pos rfl
    have v2 : M3.2.2 32 (8 * k + 2) = nI 0 := by rw [r3]; exact if_pos rfl
    have v3 : ∀ j, j ≠ 8 * k + 1 → j ≠ 8 * k + 2 → M3.2.2 32 j = M.2.2 32 j := fun j h1 h2 => by
      rw [r3]
      refine (if_neg h2).trans ?_
      rw [r2]
      refine (if_neg h1).trans ?_
      rw [k4]
    have nu : ∀ b, b < 16 → topW c = some b → StR tp X C T M D (zc (b_X11_who_137 N (hp X C M3 T) (some 35) (nI (8 * k)) (nI b) (some 35))) (fun (x : Nat × Nat) M' => M'.2.2 32 (8 * k + 1) = nI x.1 ∧ M'.2.2 32 (8 * k + 2) = nI x.2 ∧ ∀ j, j ≠ 8 * k + 1 → j ≠ 8 * k + 2 → M'.2.2 32 j = M.2.2 32 j) (bdr (sNum tp (topW c) (s.1, nx tp s.2)) fun r3 => .inr ((c, r3.1), r3.2)) := by
      intro b hb hbt
      have hh := m_number (X := X) (C := C) (T := T) (b := b) hN (by omega) lv3
      rw [hbt]
      have st : ∀ (M4 : MS), sI (hp X C M4 T) (some 52) 0 (nI (8 * k) + 2) (M4.1 35) = some (hp X C (ma M4 32 (upd (M4.2.2 32) (8 * k + 2) (M4.1 35))) T) := fun M4 => by
        rw [show nI (8 * k) + (2 : Int32) = nI (8 * k + 2) from ad8]; exact si_52 (by omega)
      cases hp' : sNum tp (some b) (s.1, nx tp s.2) with
      | inl e =>
        rw [hp'] at hh
        obtain ⟨M4, l1, l2, l3⟩ := hh
        refine ⟨_, (congrArg zc (wh_137 l1 gr_35_32 gi_35_35 (st M4))).trans (zc_0 _), l2, (fr3.tr l3).tr fr_32⟩
      | inr x =>
        rw [hp'] at hh
        obtain ⟨M4, l1, l2, l3, l4, l5⟩ := hh
        have r4 : (ma M4 32 (upd (M4.2.2 32) (8 * k + 2) (M4.1 35))).2.2 32 = upd (M4.2.2 32) (8 * k + 2) (M4.1 35) := by rw [ma_22, up_s]
        refine ⟨_, (congrArg zc (wh_137 l1 gr_35_32 gi_35_35 (st M4))).trans (zc_1 _), l2.r32, (fr3.tr l3).tr fr_32, ?_, ?_, fun j h1 h2 => ?_⟩
        · rw [r4]
          refine (if_neg (by omega)).trans ?_
          rw [l5]; exact v1
        · rw [r4]
          refine (if_pos rfl).trans ?_
          exact l4
        · rw [r4]
          refine (if_neg h2).trans ?_
          rw [l5]; exact v3 j h1 h2
    have w71 := fun P hP => wh_71 (N := N) (P := P) (nI_nm (k := c) (by omega)) k1 gr_35_32 s1 gr_35_32 s2 hP
    rcases (show c = 0 ∨ c = 3 ∨ c = 1 ∨ c = 2 ∨ c = 4 by omega) with rfl | rfl | rfl | rfl | rfl
    · rw [w71 _ (if_pos rfl), zc_1]
      exact ⟨M3, rfl, lv3, fr3, v1, v2, v3⟩
    · rw [w71 _ ((if_neg (by decide)).trans (if_pos rfl)), zc_1]
      exact ⟨M3, rfl, lv3, fr3, v1, v2, v3⟩
    · rw [w71 _ ((if_neg (by decide)).trans ((if_neg (by decide)).trans (if_pos rfl)))]
      exact nu 7 (by decide) rfl
    · rw [w71 _ ((if_neg (by decide)).trans ((if_neg (by decide)).trans ((if_neg (by decide)).trans (if_pos rfl))))]
      exact nu 15 (by decide) rfl
    · rw [w71 _ ((if_neg (by decide)).trans ((if_neg (by decide)).trans ((if_neg (by decide)).trans (if_neg (by decide)))))]
      exact nu 5 (by decide) rfl
  · unfold sCh
    rw [if_neg hc]
    obtain ⟨M1, k1, k2, k3⟩ := m_wrong (X := X) (C := C) (T := T) h
    refine ⟨M1, ?_, k2, k3⟩
    rw [ab, if_neg (by omega), if_neg (by omega), if_neg (by omega), if_neg (by omega), if_neg (by omega), wh_w rfl k1, zc_0]
theorem m_act (hN : 700 ≤ N) {k : Nat} (hk : k ≤ 12) (h : RLv tp M s D) : StR tp X C T M D (f_X11_act N (hp X C M T) (some 35) (nI (8 * k))) (fun (x : Nat) M' => M'.2.2 32 (8 * k + 3) = nI x ∧ ∀ j, j ≠ 8 * k + 3 → M'.2.2 32 j = M.2.2 32 j) (sCh tp 310 314 s) := by
  have ab := ac_ab (N := N) (v := nI (8 * k)) io_35 (r_wd (X := X) (C := C) (T := T) h.1.2.1 (i := 14) (by decide) rfl W_14) (r_wd h.1.2.1 (i := 10) (by decide) rfl W_10) (r_wd h.1.2.1 (i := 11) (by decide) rfl W_11) (r_wd h.1.2.1 (i := 12) (by decide) rfl W_12) (r_wd h.1.2.1 (i := 13) (by decide) rfl W_13)
  rw [ite10, ite10, ite10, ite10, ite10] at ab
  by_cases hc : 310 ≤ s.2.1 ∧ s.2.1 ≤ 314
  · obtain ⟨c, hc5⟩ : ∃ c, s.2.1 = 310 + c := ⟨s.2.1 - 310, by omega⟩
    have hq : sCh tp 310 314 s = .inr (c, s.1, nx tp s.2) := by
      have e : s.2.1 - 310 = c := by omega
      unfold sCh
      rw [if_pos hc, e]
    rw [hq]
    have ab' : f_X11_act N (hp X C M T) (some 35) (nI (8 * k)) = zc (b_X11_act_71 N (hp X C M T) (some 35) (nI (8 * k)) (nI c)) := by
      rw [ab]
      rcases (show c = 0 ∨ c = 1 ∨ c = 2 ∨ c = 3 ∨ c = 4 by omega) with rfl | rfl | rfl | rfl | rfl
      · rw [if_neg (show ¬ s.2.1 = 300 + 14 by omega), if_pos (show s.2.1 = 300 + 10 by omega)]; rfl
      · rw [if_neg (show ¬ s.2.1 = 300 + 14 by omega), if_neg (show ¬ s.2.1 = 300 + 10 by omega), if_pos (show s.2.1 = 300 + 11 by omega)]; rfl
      · rw [if_neg (show ¬ s.2.1 = 300 + 14 by omega), if_neg (show ¬ s.2.1 = 300 + 10 by omega), if_neg (show ¬ s.2.1 = 300 + 11 by omega), if_pos (show s.2.1 = 300 + 12 by omega)]; rfl
      · rw [if_neg (show ¬ s.2.1 = 300 + 14 by omega), if_neg (show ¬ s.2.1 = 300 + 10 by omega), if_neg (show ¬ s.2.1 = 300 + 11 by omega), if_neg (show ¬ s.2.1 = 300 + 12 by omega), if_pos (show s.2.1 = 300 + 13 by omega)]; rfl
      · rw [if_pos (show s.2.1 = 300 + 14 by omega)]; rfl
    obtain ⟨M1, k1, k2, k3, k4, k5⟩ := m_nx (X := X) (C := C) (T := T) hN h
    have s1 : sI (hp X C M1 T) (some 52) 0 (nI (8 * k) + 3) (nI c) = some (hp X C (ma M1 32 (upd (M1.2.2 32) (8 * k + 3) (nI c))) T) := by
      rw [show nI (8 * k) + (3 : Int32) = nI (8 * k + 3) from ad8]; exact si_52 (by omega)
    have r2 : (ma M1 32 (upd (M1.2.2 32) (8 * k + 3) (nI c))).2.2 32 = upd (M1.2.2 32) (8 * k + 3) (nI c) := by rw [ma_22, up_s]
    refine ⟨_, ab'.trans ((congrArg zc (ac_71 (nI_nm (k := c) (by omega)) k1 gr_35_32 s1)).trans (zc_1 _)), k2.r32, k3.tr fr_32, ?_, fun j hj => ?_⟩
    · rw [r2]; exact if_pos rfl
    · rw [r2]
      refine (if_neg hj).trans ?_
      rw [k4]
  · unfold sCh
    rw [if_neg hc]
    obtain ⟨M1, k1, k2, k3⟩ := m_wrong (X := X) (C := C) (T := T) h
    refine ⟨M1, ?_, k2, k3⟩
    rw [ab, if_neg (by omega), if_neg (by omega), if_neg (by omega), if_neg (by omega), if_neg (by omega), ac_w rfl k1, zc_0]
end MSC
