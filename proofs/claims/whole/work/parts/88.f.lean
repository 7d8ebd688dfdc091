/-! the reference's what, beginning -/
section MSD
variable {X : XS} {C : CS} {M M' : MS} {T : TS} {tp : List Nat} {s : SN} {N : Nat} {D : List (Nat × Nat)}
theorem m_what (hN : 700 ≤ N) {k : Nat} (hk : k ≤ 12) (h : RLv tp M s D) : StR tp X C T M D (f_X11_what N (hp X C M T) (some 35) (nI (8 * k))) (fun (x : Nat × Nat) M' => M'.2.2 32 (8 * k + 4) = nI x.1 ∧ M'.2.2 32 (8 * k + 5) = nI x.2 ∧ ∀ j, j ≠ 8 * k + 4 → j ≠ 8 * k + 5 → M'.2.2 32 j = M.2.2 32 j) (bdr (sWhat tp s) fun r => bdr (sNum tp (topA r.1) r.2) fun r3 => .inr ((r.1, r3.1), r3.2)) := by
  have ab := wa_ab (N := N) (v := nI (8 * k)) io_35 (r_wd (X := X) (C := C) (T := T) h.1.2.1 (i := 5) (by decide) rfl W_5) (r_wd h.1.2.1 (i := 15) (by decide) rfl W_15) (r_wd h.1.2.1 (i := 16) (by decide) rfl W_16) (r_wd h.1.2.1 (i := 17) (by decide) rfl W_17)
  rw [ite10, ite10, ite10, ite10] at ab
  by_cases hc : s.2.1 = 305 ∨ (315 ≤ s.2.1 ∧ s.2.1 ≤ 317)
  · obtain ⟨c, hcl, hc5⟩ : ∃ c, c < 4 ∧ ((c = 0 ∧ s.2.1 = 305) ∨ (1 ≤ c ∧ s.2.1 = 314 + c)) := by
      rcases hc with z | z
      · exact ⟨0, by decide, Or.inl ⟨rfl, z⟩⟩
      · exact ⟨s.2.1 - 314, by omega, Or.inr ⟨by omega, by omega⟩⟩
    have hq : sWhat tp s = .inr (c, s.1, nx tp s.2) := by
      unfold sWhat
      rcases hc5 with ⟨z1, z2⟩ | ⟨z1, z2⟩
      · rw [if_pos z2, z1]
      · have e : 1 + (s.2.1 - 315) = c := by omega
        rw [if_neg (by omega), if_pos (by omega), e]
    have ab' : f_X11_what N (hp X C M T) (some 35) (nI (8 * k)) = zc (b_X11_what_57 N (hp X C M T) (some 35) (nI (8 * k)) (nI c)) := by
      rw [ab]
      rcases (show c = 0 ∨ c = 1 ∨ c = 2 ∨ c = 3 by omega) with rfl | rfl | rfl | rfl
      · rw [if_pos (show s.2.1 = 300 + 5 by omega)]; rfl
      · rw [if_neg (show ¬ s.2.1 = 300 + 5 by omega), if_pos (show s.2.1 = 300 + 15 by omega)]; rfl
      · rw [if_neg (show ¬ s.2.1 = 300 + 5 by omega), if_neg (show ¬ s.2.1 = 300 + 15 by omega), if_pos (show s.2.1 = 300 + 16 by omega)]; rfl
      · rw [if_neg (show ¬ s.2.1 = 300 + 5 by omega), if_neg (show ¬ s.2.1 = 300 + 15 by omega), if_neg (show ¬ s.2.1 = 300 + 16 by omega), if_pos (show s.2.1 = 300 + 17 by omega)]; rfl
    rw [ab', hq]
    show StR tp X C T M D _ _ (bdr (sNum tp (topA c) (s.1, nx tp s.2)) fun r3 => .inr ((c, r3.1), r3.2))
    obtain ⟨M1, k1, k2, k3, k4, k5⟩ := m_nx (X := X) (C := C) (T := T) hN h
    have s1 : sI (hp X C M1 T) (some 52) 0 (nI (8 * k) + 4) (nI c) = some (hp X C (ma M1 32 (upd (M1.2.2 32) (8 * k + 4) (nI c))) T) := by
      rw [show nI (8 * k) + (4 : Int32) = nI (8 * k + 4) from ad8]; exact si_52 (by omega)
    obtain ⟨M2, hM2⟩ : ∃ M2, M2 = ma M1 32 (upd (M1.2.2 32) (8 * k + 4) (nI c)) := ⟨_, rfl⟩
    rw [← hM2] at s1
    have s2 : sI (hp X C M2 T) (some 52) 0 (nI (8 * k) + 5) 0 = some (hp X C (ma M2 32 (upd (M2.2.2 32) (8 * k + 5) 0)) T) := by
      rw [show nI (8 * k) + (5 : Int32) = nI (8 * k + 5) from ad8]; exact si_52 (by omega)
    have r2 : M2.2.2 32 = upd (M1.2.2 32) (8 * k + 4) (nI c) := by rw [hM2, ma_22, up_s]
    obtain ⟨M3, hM3⟩ : ∃ M3, M3 = ma M2 32 (upd (M2.2.2 32) (8 * k + 5) 0) := ⟨_, rfl⟩
    rw [← hM3] at s2
    have r3 : M3.2.2 32 = upd (M2.2.2 32) (8 * k + 5) 0 := by rw [hM3, ma_22, up_s]
    have lv3 : RLv tp M3 (s.1, nx tp s.2) D := by rw [hM3, hM2]; exact k2.r32.r32
    have fr3 : Fr2 M M3 := by rw [hM3, hM2]; exact (k3.tr fr_32).tr fr_32
    have v1 : M3.2.2 32 (8 * k + 4) = nI c := by
      rw [r3]
      refine (if_neg (by omega)).trans ?_
      rw [r2]; exact if_pos rfl
    have v2 : M3.2.2 32 (8 * k + 5) = nI 0 := by rw [r3]; exact if_pos rfl
    have v3 : ∀ j, j ≠ 8 * k + 4 → j ≠ 8 * k + 5 → M3.2.2 32 j = M.2.2 32 j := fun j h1 h2 => by
      rw [r3]
      refine (if_neg h2).trans ?_
      rw [r2]
      refine (if_neg h1).trans ?_
      rw [k4]
    have nu : ∀ b, b < 16 → topA c = some b → StR tp X C T M D (zc (b_X11_what_118 N (hp X C M3 T) (some 35) (nI (8 * k)) (nI b) (some 35))) (fun (x : Nat × Nat) M' => M'.2.2 32 (8 * k + 4) = nI x.1 ∧ M'.2.2 32 (8 * k + 5) = nI x.2 ∧ ∀ j, j ≠ 8 * k + 4 → j ≠ 8 * k + 5 → M'.2.2 32 j = M.2.2 32 j) (bdr (sNum tp (topA c) (s.1, nx tp s.2)) fun r3 => .inr ((c, r3.1), r3.2)) := by
      intro b hb hbt
      have hh := m_number (X := X) (C := C) (T := T) (b := b) hN (by omega) lv3
      rw [hbt]
      have st : ∀ (M4 : MS), sI (hp X C M4 T) (some 52) 0 (nI (8 * k) + 5) (M4.1 35) = some (hp X C (ma M4 32 (upd (M4.2.2 32) (8 * k + 5) (M4.1 35))) T) := fun M4 => by
        rw [show nI (8 * k) + (5 : Int32) = nI (8 * k + 5) from ad8]; exact si_52 (by omega)
      cases hp' : sNum tp (some b) (s.1, nx tp s.2) with
      | inl e =>
        rw [hp'] at hh
        obtain ⟨M4, l1, l2, l3⟩ := hh
        refine ⟨_, (congrArg zc (wa_118 l1 gr_35_32 gi_35_35 (st M4))).trans (zc_0 _), l2, (fr3.tr l3).tr fr_32⟩
      | inr x =>
        rw [hp'] at hh
        obtain ⟨M4, l1, l2, l3, l4, l5⟩ := hh
        have r4 : (ma M4 32 (upd (M4.2.2 32) (8 * k + 5) (M4.1 35))).2.2 32 = upd (M4.2.2 32) (8 * k + 5) (M4.1 35) := by rw [ma_22, up_s]
        refine ⟨_, (congrArg zc (wa_118 l1 gr_35_32 gi_35_35 (st M4))).trans (zc_1 _), l2.r32, (fr3.tr l3).tr fr_32, ?_, ?_, fun j h1 h2 => ?_⟩
        · rw [r4]
          refine (if_neg (by omega)).trans ?_
          rw [l5]; exact v1
        · rw [r4]
          refine (if_pos rfl).trans ?_
          exact l4
        · rw [r4]
          refine (if_neg h2).trans ?_
          rw [l5]; exact v3 j h1 h2
    have w71 := fun P hP => wa_57 (N := N) (P := P) (nI_nm (k := c) (by omega)) k1 gr_35_32 s1 gr_35_32 s2 hP
    rcases (show c = 0 ∨ c = 1 ∨ c = 2 ∨ c = 3 by omega) with rfl | rfl | rfl | rfl
    · rw [w71 _ (if_pos rfl), zc_1]
      exact ⟨M3, rfl, lv3, fr3, v1, v2, v3⟩
    · rw [w71 _ ((if_neg (by decide)).trans (if_pos rfl))]
      exact nu 7 (by decide) rfl
    · rw [w71 _ ((if_neg (by decide)).trans ((if_neg (by decide)).trans (if_pos rfl)))]
      exact nu 15 (by decide) rfl
    · rw [w71 _ ((if_neg (by decide)).trans ((if_neg (by decide)).trans (if_neg (by decide))))]
      exact nu 5 (by decide) rfl
  · have hq : sWhat tp s = .inl s.2.2.2.1 := by
      unfold sWhat
      rw [if_neg (by omega), if_neg (by omega)]
    rw [hq]
    obtain ⟨M1, k1, k2, k3⟩ := m_wrong (X := X) (C := C) (T := T) h
    refine ⟨M1, ?_, k2, k3⟩
    rw [ab, if_neg (by omega), if_neg (by omega), if_neg (by omega), if_neg (by omega), wa_w rfl k1, zc_0]
/-- needs a sign -/
theorem m_need {c : Nat} (hN : 700 ≤ N) (hc : gL c = true) (h : RLv tp M s D) : (match sNeed tp c s with
    | .inl e => ∃ M', f_X11_need N (hp X C M T) (some 35) (nI c) = some (0, hp X C M' T) ∧ RDd M' e ∧ Fr2 M M'
    | .inr x => ∃ M', f_X11_need N (hp X C M T) (some 35) (nI c) = some (1, hp X C M' T) ∧ RLv tp M' x D ∧ Fr2 M M' ∧ M'.2.2 32 = M.2.2 32) := by
  unfold sNeed
  by_cases hk : s.2.1 = c
  · rw [if_pos hk]
    obtain ⟨M1, k1, k2, k3⟩ := r_need (X := X) (C := C) (T := T) hN h.1 hc hk
    exact ⟨M1, k1, h.mk k2 k3, (Fr2.of k3.2.2).1, (Fr2.of k3.2.2).2⟩
  · rw [if_neg hk]
    obtain ⟨M1, k1, k2, k3⟩ := r_need_f (X := X) (C := C) (T := T) (N := N) (s := D.length) h.1 (by omega) hc hk
    exact ⟨M1, k1, ⟨k2.2.1, k2.2.2.1⟩, (Fr2.of k3).1⟩
/-- but for how they decide -/
def Fr1 (M M' : MS) : Prop := (∀ j, j < 18 ∨ j = 19 ∨ j = 30 ∨ 35 < j → M'.1 j = M.1 j) ∧ ∀ j, j ≠ 32 → j ≠ 33 → j ≠ 34 → M'.2.2 j = M.2.2 j
theorem Fr1.of (h : Fr2 M M') : Fr1 M M' := ⟨fun j hj => h.1 j (by omega), h.2⟩
theorem Fr1.tr {M2 : MS} (h : Fr1 M M') (h2 : Fr1 M' M2) : Fr1 M M2 := ⟨fun j hj => (h2.1 j hj).trans (h.1 j hj), fun j a b c => (h2.2 j a b c).trans (h.2 j a b c)⟩
theorem fr1_29 {v : Int32} : Fr1 M (m0 M 29 v) := ⟨fun j hj => m0_n (by omega), fun _ _ _ _ => rfl⟩
theorem m_begin (hN : 700 ≤ N) (h : RLv tp M s D) : (match pHow tp s with
    | .inl e => ∃ M', f_X11_beginning N (hp X C M T) (some 35) = some (0, hp X C M' T) ∧ RDd M' e ∧ Fr1 M M'
    | .inr x => ∃ M', f_X11_beginning N (hp X C M T) (some 35) = some (1, hp X C M' T) ∧ RLv tp M' x.2 D ∧ Fr1 M M' ∧ M'.1 29 = nI x.1) := by
  unfold pHow
  have h0 := h.m0 (k := 29) (v := 0) (by decide)
  by_cases hk : s.2.1 = 300
  · rw [if_pos hk]
    have t0 := r_word (X := X) (C := C) (T := T) (i := 0) h0.1.2.1 (by decide) rfl W_0 hk
    obtain ⟨M1, k1, k2, k3, k4, k5⟩ := m_nx (X := X) (C := C) (T := T) hN h0
    have fr1 : Fr1 M M1 := fr1_29.tr (Fr1.of k3)
    have ab := bg_y (N := N) io_35 (pi_35_29 (X := X) (C := C) (M := M) (T := T) 0) t0 k1 (r_wd (X := X) (C := C) (T := T) k2.1.2.1 (i := 1) (by decide) rfl W_1) (r_wd k2.1.2.1 (i := 2) (by decide) rfl W_2) (r_wd k2.1.2.1 (i := 3) (by decide) rfl W_3) (r_wd k2.1.2.1 (i := 4) (by decide) rfl W_4)
    rw [ite10, ite10, ite10, ite10] at ab
    by_cases hc : 301 ≤ (nx tp s.2).1 ∧ (nx tp s.2).1 ≤ 304
    · obtain ⟨c, hc5⟩ : ∃ c, (nx tp s.2).1 = 301 + c := ⟨(nx tp s.2).1 - 301, by omega⟩
      have hq : sCh tp 301 304 (s.1, nx tp s.2) = .inr (c, s.1, nx tp (nx tp s.2)) := by
        have e : (nx tp s.2).1 - 301 = c := by omega
        unfold sCh
        rw [if_pos hc, e]
      have ab' : f_X11_beginning N (hp X C M T) (some 35) = zc (b_X11_beginning_79 N (hp X C M1 T) (some 35) (nI c) (some 35)) := by
        rw [ab]
        rcases (show c = 0 ∨ c = 1 ∨ c = 2 ∨ c = 3 by omega) with rfl | rfl | rfl | rfl
        · rw [if_pos (show (nx tp s.2).1 = 300 + 1 by omega)]; rfl
        · rw [if_neg (show ¬ (nx tp s.2).1 = 300 + 1 by omega), if_pos (show (nx tp s.2).1 = 300 + 2 by omega)]; rfl
        · rw [if_neg (show ¬ (nx tp s.2).1 = 300 + 1 by omega), if_neg (show ¬ (nx tp s.2).1 = 300 + 2 by omega), if_pos (show (nx tp s.2).1 = 300 + 3 by omega)]; rfl
        · rw [if_neg (show ¬ (nx tp s.2).1 = 300 + 1 by omega), if_neg (show ¬ (nx tp s.2).1 = 300 + 2 by omega), if_neg (show ¬ (nx tp s.2).1 = 300 + 3 by omega), if_pos (show (nx tp s.2).1 = 300 + 4 by omega)]; rfl
      rw [hq]
      have h2 := k2.m0 (k := 29) (v := nI c) (by decide)
      obtain ⟨M2, l1, l2, l3, l4, l5⟩ := m_nx (X := X) (C := C) (T := T) hN h2
      have hh := m_need (X := X) (C := C) (T := T) (c := 59) hN rfl l2
      have fr2 : Fr1 M M2 := (fr1.tr fr1_29).tr (Fr1.of l3)
      have h29 : M2.1 29 = nI c := (l3.1 29 (by decide)).trans m0_s
      show (match (bdr (sNeed tp 59 (s.1, nx tp (nx tp s.2))) fun r2 => .inr (c, r2) : Nat ⊕ (Nat × SN)) with
        | .inl e => ∃ M', f_X11_beginning N (hp X C M T) (some 35) = some (0, hp X C M' T) ∧ RDd M' e ∧ Fr1 M M'
        | .inr x => ∃ M', f_X11_beginning N (hp X C M T) (some 35) = some (1, hp X C M' T) ∧ RLv tp M' x.2 D ∧ Fr1 M M' ∧ M'.1 29 = nI x.1)
      have hg : gI (hp X C (m0 M1 29 (nI c)) T) (some 35) 11 29 = some (nI c) := by rw [gi_35_29, m0_s]
      cases hN' : sNeed tp 59 (s.1, nx tp (nx tp s.2)) with
      | inl e =>
        rw [hN'] at hh
        obtain ⟨M3, n1, n2, n3⟩ := hh
        exact ⟨M3, ab'.trans ((congrArg zc (bg_79 (pi_35_29 _) hg (nI_nm (by omega)) l1 n1)).trans (zc_0 _)), n2, fr2.tr (Fr1.of n3)⟩
      | inr y =>
        rw [hN'] at hh
        obtain ⟨M3, n1, n2, n3, n4⟩ := hh
        exact ⟨M3, ab'.trans ((congrArg zc (bg_79 (pi_35_29 _) hg (nI_nm (by omega)) l1 n1)).trans (zc_1 _)), n2, fr2.tr (Fr1.of n3), (n3.1 29 (by decide)).trans h29⟩
    · have hq : sCh tp 301 304 (s.1, nx tp s.2) = .inl (nx tp s.2).2.2.1 := by
        unfold sCh
        rw [if_neg hc]
      rw [hq]
      have h2 := k2.m0 (k := 29) (v := -1) (by decide)
      obtain ⟨M2, l1, l2, l3⟩ := m_wrong (X := X) (C := C) (T := T) h2
      refine ⟨M2, ?_, l2, (fr1.tr fr1_29).tr (Fr1.of l3)⟩
      have hg : gI (hp X C (m0 M1 29 (-1)) T) (some 35) 11 29 = some (-1) := by rw [gi_35_29, m0_s]
      have c1 : ¬ (nx tp s.2).1 = 300 + 1 := by omega
      have c2 : ¬ (nx tp s.2).1 = 300 + 2 := by omega
      have c3 : ¬ (nx tp s.2).1 = 300 + 3 := by omega
      have c4 : ¬ (nx tp s.2).1 = 300 + 4 := by omega
      rw [ab, if_neg c1, if_neg c2, if_neg c3, if_neg c4, bg_w (pi_35_29 _) hg rfl l1, zc_0]
  · rw [if_neg hk]
    have t0 := r_word_f (X := X) (C := C) (T := T) (i := 0) h0.1.2.1 (by decide) rfl W_0 hk
    exact ⟨_, bg_n io_35 (pi_35_29 _) t0 rfl, h0, fr1_29, m0_s⟩
end MSD
