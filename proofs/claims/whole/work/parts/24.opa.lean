/-! simple calls: person, thing, moves, gives -/
theorem nI_255 : nI 255 = 255 := by decide
theorem nI_5 : nI 5 = 5 := by decide
theorem nI_7 : nI 7 = 7 := by decide
theorem nI_3 : nI 3 = 3 := by decide
theorem nI_2 : nI 2 = 2 := by decide
theorem nI_4 : nI 4 = 4 := by decide
theorem nI_1' : nI 1 = 1 := by decide
theorem nI_m1 (n : Nat) (h : 0 < n) : nI n - 1 = nI (n - 1) := by
  obtain ⟨k, rfl⟩ : ∃ k, n = k + 1 := ⟨n - 1, by omega⟩
  rw [nI_pred]; rfl
section OPA
variable {X : XS} {C : CS} {M : MS} {T : TS} {S : SG} {K : Nat}
theorem k_can {g c : Nat} (hg : g ≤ 255) (hc : c ≤ 5) : f_X10_canBePerson (nI g) (nI c) = some 1 := by
  simp only [f_X10_canBePerson, b_X10_canBePerson, ← nI_255, ← nI_5, upTo_t (nI_pos (show g < 2 ^ 31 by omega)) (nI_nlt hg (by decide)), upTo_t (nI_pos (show c < 2 ^ 31 by omega)) (nI_nlt hc (by decide)), Option.bind_some, i1_ne, if_false, zd_1]
theorem k_can_f1 {g c : Int32} (hg : g < 0 ∨ nI 255 < g) : f_X10_canBePerson g c = some 0 := by
  simp only [f_X10_canBePerson, b_X10_canBePerson, ← nI_255, upTo_f hg, Option.bind_some, if_true, zd_0]
theorem k_can_f2 {g : Nat} {c : Int32} (hg : g ≤ 255) (hc : c < 0 ∨ nI 5 < c) : f_X10_canBePerson (nI g) c = some 0 := by
  simp only [f_X10_canBePerson, b_X10_canBePerson, ← nI_255, ← nI_5, upTo_t (nI_pos (show g < 2 ^ 31 by omega)) (nI_nlt hg (by decide)), upTo_f hc, Option.bind_some, i1_ne, if_false, if_true, zd_0]
/-- one of the PEOPLE more -/
def n_ppl (S : SG) (p : Nat × Nat) : SG := (s_tape S, ((t_ppl (s_told S)) ++ [p], (s_told S).2), S.2.2)
theorem k_person_t {n g c : Nat} (hn : C.1 9 = nI n) (h16 : n < 16) (hg : g ≤ 255) (hc : c ≤ 5) : f_X10_person (hp X C M T) (some 8) (nI g) (nI c) = some (nI n, hp X (ca (c0 C 9 (nI (n + 1))) 2 (upd (upd (C.2.1 2) (n * 2) (nI g)) (n * 2 + 1) (nI c))) M T) := by
  have e1 := pp_set (X := X) (M := M) (T := T) (C := c0 C 9 (nI (n + 1))) (n := n + 1) (k := n) (j := 0) (x := nI g) rfl (by omega) (by omega) (by decide)
  have e2 := pp_set (X := X) (M := M) (T := T) (C := ca (c0 C 9 (nI (n + 1))) 2 (upd (C.2.1 2) (n * 2) (nI g))) (n := n + 1) (k := n) (j := 1) (x := nI c) rfl (by omega) (by omega) (by decide)
  rw [nI_0] at e1
  rw [nI_1'] at e2
  simp only [f_X10_person, b_X10_person, io_8, if_true, k_can hg hc, Option.bind_some, i1_ne, if_false, gr_8_2, gr_15_0, pp_add hn h16, e1, e2, Nat.add_zero]
  rfl
theorem k_person_f {g c : Int32} (h : f_X10_canBePerson g c = some 0) : f_X10_person (hp X C M T) (some 8) g c = some (-1, hp X C M T) := by
  simp only [f_X10_person, b_X10_person, io_8, if_true, h, Option.bind_some]
theorem k_person_f2 {g c : Nat} (hn : C.1 9 = nI 16) (hg : g ≤ 255) (hc : c ≤ 5) : f_X10_person (hp X C M T) (some 8) (nI g) (nI c) = some (-1, hp X C M T) := by
  simp only [f_X10_person, b_X10_person, io_8, if_true, k_can hg hc, Option.bind_some, i1_ne, if_false, gr_8_2, gr_15_0, pp_add_f hn rfl, tb_set_f (tb_p hn) (Or.inl m1_neg)]
theorem in_t {a b c : Nat} (h1 : b ≤ a) (h2 : a ≤ c) (hc : c < 2 ^ 31) : f_X11_in (nI a) (nI b) (nI c) = some 1 := min_t (nI_nlt h1 (by omega)) (nI_nlt h2 hc)
theorem in_f {a : Int32} {c : Nat} (h : a < 0 ∨ nI c < a) : f_X11_in a 0 (nI c) = some 0 := min_f h
theorem m_person_t {n g c : Nat} (hn : M.2.2 3 0 = nI n) (h16 : n < 16) (hg : g ≤ 255) (hc : c ≤ 5) : f_X11_person (hp X C M T) (some 32) (nI g) (nI c) = some (nI n, hp X C (ma (ma (ma (m0 M 0 0) 4 (upd (M.2.2 4) n (nI g))) 5 (upd (M.2.2 5) n (nI c))) 3 (upd (M.2.2 3) 0 (nI (n + 1)))) T) := by
  have q1 : ¬ nI n = 16 := fun h => by have := (nI_eq (by omega) (by decide)).mp (h.trans nI_16.symm); omega
  have p1 := in_t (a := g) (b := 0) (c := 255) (Nat.zero_le _) hg (by decide)
  have p2 := in_t (a := c) (b := 0) (c := 5) (Nat.zero_le _) hc (by decide)
  rw [nI_0, nI_255] at p1
  rw [nI_0, nI_5] at p2
  simp (disch := omega) only [f_X11_person, b_X11_person, ln_0, ln_1, ln_2, io_8, gr_8_0, gr_8_1, gr_8_2, gr_8_3, gr_8_4, gr_8_5, gr_8_6, pr_8_6, gi_8_7, pi_8_7, gi_8_8, pi_8_8, io_9, gr_9_0, gi_9_1, pi_9_1, ln_10, io_11, gr_11_0, gr_11_1, gr_11_2, gi_11_3, pi_11_3, gi_11_4, pi_11_4, gi_11_5, pi_11_5, gi_11_6, pi_11_6, io_12, gr_12_0, gi_12_1, pi_12_1, gi_12_2, pi_12_2, gi_12_3, pi_12_3, gi_12_4, pi_12_4, ln_13, ln_14, io_15, gr_15_0, gr_15_1, gr_15_2, gr_15_3, io_16, gi_16_0, gi_16_1, gr_16_2, gi_16_3, pi_16_3, ln_17, io_18, gi_18_0, gi_18_1, gr_18_2, gi_18_3, pi_18_3, ln_19, io_20, gi_20_0, gi_20_1, gr_20_2, gi_20_3, pi_20_3, ln_21, ln_22, io_23, gi_23_0, gr_23_1, gr_23_2, ln_24, ln_25, ln_26, io_27, gr_27_0, gi_27_1, pi_27_1, gi_27_2, pi_27_2, gi_27_3, pi_27_3, gi_27_4, pi_27_4, gi_27_5, pi_27_5, gi_27_6, pi_27_6, gi_27_7, pi_27_7, gi_27_8, pi_27_8, gi_27_9, pi_27_9, gi_27_10, pi_27_10, gi_27_11, pz_27_11, ln_28, io_29, gr_29_0, gr_29_1, gi_29_2, pi_29_2, gi_29_3, pi_29_3, gi_29_4, pi_29_4, gi_29_5, pi_29_5, gi_29_6, pi_29_6, gi_29_7, pi_29_7, ln_30, ln_31, io_32, gi_32_0, pi_32_0, gr_32_1, gi_32_2, pi_32_2, gr_32_3, gr_32_4, gr_32_5, gr_32_6, gr_32_7, gr_32_8, gr_32_9, gr_32_10, gr_32_11, gr_32_12, gr_32_13, gr_32_14, gr_32_15, gr_32_16, gr_32_17, gi_32_18, pi_32_18, gi_32_19, pi_32_19, gi_32_20, pi_32_20, gi_32_21, pi_32_21, gi_32_22, pi_32_22, gj_32_23, pj_32_23, gi_32_24, pi_32_24, gi_32_25, pi_32_25, gi_32_26, pi_32_26, gi_32_27, pi_32_27, gi_32_28, pi_32_28, gi_32_29, pi_32_29, gi_32_30, pi_32_30, gi_32_31, pi_32_31, gr_32_32, gr_32_33, gr_32_34, gi_32_35, pi_32_35, gi_32_36, pi_32_36, gr_32_37, gr_32_38, gi_32_39, pi_32_39, gi_32_40, pi_32_40, gi_32_41, pz_32_41, gi_32_42, pi_32_42, gi_32_43, pi_32_43, gi_32_44, pi_32_44, gr_32_45, gr_32_46, gr_32_47, gr_32_48, gr_32_49, ln_33, ln_34, ln_35, ln_36, ln_37, ln_38, ln_39, ln_40, ln_41, ln_42, ln_43, ln_44, ln_45, ln_46, ln_47, ln_48, ln_49, ln_50, ln_51, ln_52, ln_53, ln_54, ln_55, ln_56, ln_57, ln_58, ai_0, ai_1, az_1_0, ai_2, az_2_0, az_2_1, az_2_2, az_2_3, ai_10, az_10_0, si_10, sz_10_0, ar_13, ai_14, az_14_0, si_14, sz_14_0, ai_17, az_17_0, si_17, sz_17_0, ai_19, az_19_0, si_19, sz_19_0, ai_21, si_21, ar_22, ar_26, ai_28, az_28_0, si_28, sz_28_0, ai_30, az_30_0, si_30, sz_30_0, ai_31, az_31_0, si_31, sz_31_0, ai_33, az_33_0, si_33, sz_33_0, ai_34, az_34_0, az_34_1, az_34_2, az_34_3, si_34, sz_34_0, sz_34_1, sz_34_2, sz_34_3, ai_35, az_35_0, si_35, sz_35_0, ai_36, az_36_0, si_36, sz_36_0, ai_37, az_37_0, az_37_1, az_37_2, az_37_3, si_37, sz_37_0, sz_37_1, sz_37_2, sz_37_3, ai_38, az_38_0, si_38, sz_38_0, ai_39, az_39_0, si_39, sz_39_0, ai_40, az_40_0, si_40, sz_40_0, ai_41, az_41_0, az_41_1, az_41_2, az_41_3, si_41, sz_41_0, sz_41_1, sz_41_2, sz_41_3, ai_42, si_42, ai_43, az_43_0, si_43, sz_43_0, ai_44, az_44_0, si_44, sz_44_0, ai_45, az_45_0, si_45, sz_45_0, ai_46, si_46, ai_47, si_47, ai_48, si_48, ai_49, az_49_0, si_49, sz_49_0, ai_50, si_50, ai_51, si_51, ai_52, az_52_0, az_52_1, az_52_2, az_52_3, si_52, sz_52_0, sz_52_1, sz_52_2, sz_52_3, ai_53, az_53_0, si_53, sz_53_0, ai_54, az_54_0, az_54_1, az_54_2, si_54, sz_54_0, sz_54_1, sz_54_2, ai_55, az_55_0, az_55_1, az_55_2, si_55, sz_55_0, sz_55_1, sz_55_2, ai_56, az_56_0, az_56_1, az_56_2, si_56, sz_56_0, sz_56_1, sz_56_2, ai_57, az_57_0, az_57_1, az_57_2, si_57, sz_57_0, sz_57_1, sz_57_2, ai_58, az_58_0, az_58_1, az_58_2, si_58, sz_58_0, sz_58_1, sz_58_2, if_true, if_false, Option.bind_some, i1_ne, up_s, up_n, pk_us, nI_1, nI_pred, zd_0, zd_1, zc_0, zc_1, hn, q1, p1, p2]

theorem m_person_f1 {n : Nat} {g c : Int32} (hn : M.2.2 3 0 = nI n) (h : n = 16 ∨ f_X11_in g 0 255 = some 0 ∨ f_X11_in g 0 255 = some 1 ∧ f_X11_in c 0 5 = some 0) : f_X11_person (hp X C M T) (some 32) g c = some (-1, hp X C (m0 M 0 0) T) := by
  by_cases q1 : nI n = 16
  · simp (disch := omega) only [f_X11_person, b_X11_person, ln_0, ln_1, ln_2, io_8, gr_8_0, gr_8_1, gr_8_2, gr_8_3, gr_8_4, gr_8_5, gr_8_6, pr_8_6, gi_8_7, pi_8_7, gi_8_8, pi_8_8, io_9, gr_9_0, gi_9_1, pi_9_1, ln_10, io_11, gr_11_0, gr_11_1, gr_11_2, gi_11_3, pi_11_3, gi_11_4, pi_11_4, gi_11_5, pi_11_5, gi_11_6, pi_11_6, io_12, gr_12_0, gi_12_1, pi_12_1, gi_12_2, pi_12_2, gi_12_3, pi_12_3, gi_12_4, pi_12_4, ln_13, ln_14, io_15, gr_15_0, gr_15_1, gr_15_2, gr_15_3, io_16, gi_16_0, gi_16_1, gr_16_2, gi_16_3, pi_16_3, ln_17, io_18, gi_18_0, gi_18_1, gr_18_2, gi_18_3, pi_18_3, ln_19, io_20, gi_20_0, gi_20_1, gr_20_2, gi_20_3, pi_20_3, ln_21, ln_22, io_23, gi_23_0, gr_23_1, gr_23_2, ln_24, ln_25, ln_26, io_27, gr_27_0, gi_27_1, pi_27_1, gi_27_2, pi_27_2, gi_27_3, pi_27_3, gi_27_4, pi_27_4, gi_27_5, pi_27_5, gi_27_6, pi_27_6, gi_27_7, pi_27_7, gi_27_8, pi_27_8, gi_27_9, pi_27_9, gi_27_10, pi_27_10, gi_27_11, pz_27_11, ln_28, io_29, gr_29_0, gr_29_1, gi_29_2, pi_29_2, gi_29_3, pi_29_3, gi_29_4, pi_29_4, gi_29_5, pi_29_5, gi_29_6, pi_29_6, gi_29_7, pi_29_7, ln_30, ln_31, io_32, gi_32_0, pi_32_0, gr_32_1, gi_32_2, pi_32_2, gr_32_3, gr_32_4, gr_32_5, gr_32_6, gr_32_7, gr_32_8, gr_32_9, gr_32_10, gr_32_11, gr_32_12, gr_32_13, gr_32_14, gr_32_15, gr_32_16, gr_32_17, gi_32_18, pi_32_18, gi_32_19, pi_32_19, gi_32_20, pi_32_20, gi_32_21, pi_32_21, gi_32_22, pi_32_22, gj_32_23, pj_32_23, gi_32_24, pi_32_24, gi_32_25, pi_32_25, gi_32_26, pi_32_26, gi_32_27, pi_32_27, gi_32_28, pi_32_28, gi_32_29, pi_32_29, gi_32_30, pi_32_30, gi_32_31, pi_32_31, gr_32_32, gr_32_33, gr_32_34, gi_32_35, pi_32_35, gi_32_36, pi_32_36, gr_32_37, gr_32_38, gi_32_39, pi_32_39, gi_32_40, pi_32_40, gi_32_41, pz_32_41, gi_32_42, pi_32_42, gi_32_43, pi_32_43, gi_32_44, pi_32_44, gr_32_45, gr_32_46, gr_32_47, gr_32_48, gr_32_49, ln_33, ln_34, ln_35, ln_36, ln_37, ln_38, ln_39, ln_40, ln_41, ln_42, ln_43, ln_44, ln_45, ln_46, ln_47, ln_48, ln_49, ln_50, ln_51, ln_52, ln_53, ln_54, ln_55, ln_56, ln_57, ln_58, ai_0, ai_1, az_1_0, ai_2, az_2_0, az_2_1, az_2_2, az_2_3, ai_10, az_10_0, si_10, sz_10_0, ar_13, ai_14, az_14_0, si_14, sz_14_0, ai_17, az_17_0, si_17, sz_17_0, ai_19, az_19_0, si_19, sz_19_0, ai_21, si_21, ar_22, ar_26, ai_28, az_28_0, si_28, sz_28_0, ai_30, az_30_0, si_30, sz_30_0, ai_31, az_31_0, si_31, sz_31_0, ai_33, az_33_0, si_33, sz_33_0, ai_34, az_34_0, az_34_1, az_34_2, az_34_3, si_34, sz_34_0, sz_34_1, sz_34_2, sz_34_3, ai_35, az_35_0, si_35, sz_35_0, ai_36, az_36_0, si_36, sz_36_0, ai_37, az_37_0, az_37_1, az_37_2, az_37_3, si_37, sz_37_0, sz_37_1, sz_37_2, sz_37_3, ai_38, az_38_0, si_38, sz_38_0, ai_39, az_39_0, si_39, sz_39_0, ai_40, az_40_0, si_40, sz_40_0, ai_41, az_41_0, az_41_1, az_41_2, az_41_3, si_41, sz_41_0, sz_41_1, sz_41_2, sz_41_3, ai_42, si_42, ai_43, az_43_0, si_43, sz_43_0, ai_44, az_44_0, si_44, sz_44_0, ai_45, az_45_0, si_45, sz_45_0, ai_46, si_46, ai_47, si_47, ai_48, si_48, ai_49, az_49_0, si_49, sz_49_0, ai_50, si_50, ai_51, si_51, ai_52, az_52_0, az_52_1, az_52_2, az_52_3, si_52, sz_52_0, sz_52_1, sz_52_2, sz_52_3, ai_53, az_53_0, si_53, sz_53_0, ai_54, az_54_0, az_54_1, az_54_2, si_54, sz_54_0, sz_54_1, sz_54_2, ai_55, az_55_0, az_55_1, az_55_2, si_55, sz_55_0, sz_55_1, sz_55_2, ai_56, az_56_0, az_56_1, az_56_2, si_56, sz_56_0, sz_56_1, sz_56_2, ai_57, az_57_0, az_57_1, az_57_2, si_57, sz_57_0, sz_57_1, sz_57_2, ai_58, az_58_0, az_58_1, az_58_2, si_58, sz_58_0, sz_58_1, sz_58_2, if_true, if_false, Option.bind_some, i1_ne, up_s, up_n, pk_us, nI_1, nI_pred, zd_0, zd_1, zc_0, zc_1, hn, q1]
  · rcases h with h | h | ⟨h, h2⟩
    · subst h; exact absurd nI_16 q1
    · simp (disch := omega) only [f_X11_person, b_X11_person, ln_0, ln_1, ln_2, io_8, gr_8_0, gr_8_1, gr_8_2, gr_8_3, gr_8_4, gr_8_5, gr_8_6, pr_8_6, gi_8_7, pi_8_7, gi_8_8, pi_8_8, io_9, gr_9_0, gi_9_1, pi_9_1, ln_10, io_11, gr_11_0, gr_11_1, gr_11_2, gi_11_3, pi_11_3, gi_11_4, pi_11_4, gi_11_5, pi_11_5, gi_11_6, pi_11_6, io_12, gr_12_0, gi_12_1, pi_12_1, gi_12_2, pi_12_2, gi_12_3, pi_12_3, gi_12_4, pi_12_4, ln_13, ln_14, io_15, gr_15_0, gr_15_1, gr_15_2, gr_15_3, io_16, gi_16_0, gi_16_1, gr_16_2, gi_16_3, pi_16_3, ln_17, io_18, gi_18_0, gi_18_1, gr_18_2, gi_18_3, pi_18_3, ln_19, io_20, gi_20_0, gi_20_1, gr_20_2, gi_20_3, pi_20_3, ln_21, ln_22, io_23, gi_23_0, gr_23_1, gr_23_2, ln_24, ln_25, ln_26, io_27, gr_27_0, gi_27_1, pi_27_1, gi_27_2, pi_27_2, gi_27_3, pi_27_3, gi_27_4, pi_27_4, gi_27_5, pi_27_5, gi_27_6, pi_27_6, gi_27_7, pi_27_7, gi_27_8, pi_27_8, gi_27_9, pi_27_9, gi_27_10, pi_27_10, gi_27_11, pz_27_11, ln_28, io_29, gr_29_0, gr_29_1, gi_29_2, pi_29_2, gi_29_3, pi_29_3, gi_29_4, pi_29_4, gi_29_5, pi_29_5, gi_29_6, pi_29_6, gi_29_7, pi_29_7, ln_30, ln_31, io_32, gi_32_0, pi_32_0, gr_32_1, gi_32_2, pi_32_2, gr_32_3, gr_32_4, gr_32_5, gr_32_6, gr_32_7, gr_32_8, gr_32_9, gr_32_10, gr_32_11, gr_32_12, gr_32_13, gr_32_14, gr_32_15, gr_32_16, gr_32_17, gi_32_18, pi_32_18, gi_32_19, pi_32_19, gi_32_20, pi_32_20, gi_32_21, pi_32_21, gi_32_22, pi_32_22, gj_32_23, pj_32_23, gi_32_24, pi_32_24, gi_32_25, pi_32_25, gi_32_26, pi_32_26, gi_32_27, pi_32_27, gi_32_28, pi_32_28, gi_32_29, pi_32_29, gi_32_30, pi_32_30, gi_32_31, pi_32_31, gr_32_32, gr_32_33, gr_32_34, gi_32_35, pi_32_35, gi_32_36, pi_32_36, gr_32_37, gr_32_38, gi_32_39, pi_32_39, gi_32_40, pi_32_40, gi_32_41, pz_32_41, gi_32_42, pi_32_42, gi_32_43, pi_32_43, gi_32_44, pi_32_44, gr_32_45, gr_32_46, gr_32_47, gr_32_48, gr_32_49, ln_33, ln_34, ln_35, ln_36, ln_37, ln_38, ln_39, ln_40, ln_41, ln_42, ln_43, ln_44, ln_45, ln_46, ln_47, ln_48, ln_49, ln_50, ln_51, ln_52, ln_53, ln_54, ln_55, ln_56, ln_57, ln_58, ai_0, ai_1, az_1_0, ai_2, az_2_0, az_2_1, az_2_2, az_2_3, ai_10, az_10_0, si_10, sz_10_0, ar_13, ai_14, az_14_0, si_14, sz_14_0, ai_17, az_17_0, si_17, sz_17_0, ai_19, az_19_0, si_19, sz_19_0, ai_21, si_21, ar_22, ar_26, ai_28, az_28_0, si_28, sz_28_0, ai_30, az_30_0, si_30, sz_30_0, ai_31, az_31_0, si_31, sz_31_0, ai_33, az_33_0, si_33, sz_33_0, ai_34, az_34_0, az_34_1, az_34_2, az_34_3, si_34, sz_34_0, sz_34_1, sz_34_2, sz_34_3, ai_35, az_35_0, si_35, sz_35_0, ai_36, az_36_0, si_36, sz_36_0, ai_37, az_37_0, az_37_1, az_37_2, az_37_3, si_37, sz_37_0, sz_37_1, sz_37_2, sz_37_3, ai_38, az_38_0, si_38, sz_38_0, ai_39, az_39_0, si_39, sz_39_0, ai_40, az_40_0, si_40, sz_40_0, ai_41, az_41_0, az_41_1, az_41_2, az_41_3, si_41, sz_41_0, sz_41_1, sz_41_2, sz_41_3, ai_42, si_42, ai_43, az_43_0, si_43, sz_43_0, ai_44, az_44_0, si_44, sz_44_0, ai_45, az_45_0, si_45, sz_45_0, ai_46, si_46, ai_47, si_47, ai_48, si_48, ai_49, az_49_0, si_49, sz_49_0, ai_50, si_50, ai_51, si_51, ai_52, az_52_0, az_52_1, az_52_2, az_52_3, si_52, sz_52_0, sz_52_1, sz_52_2, sz_52_3, ai_53, az_53_0, si_53, sz_53_0, ai_54, az_54_0, az_54_1, az_54_2, si_54, sz_54_0, sz_54_1, sz_54_2, ai_55, az_55_0, az_55_1, az_55_2, si_55, sz_55_0, sz_55_1, sz_55_2, ai_56, az_56_0, az_56_1, az_56_2, si_56, sz_56_0, sz_56_1, sz_56_2, ai_57, az_57_0, az_57_1, az_57_2, si_57, sz_57_0, sz_57_1, sz_57_2, ai_58, az_58_0, az_58_1, az_58_2, si_58, sz_58_0, sz_58_1, sz_58_2, if_true, if_false, Option.bind_some, i1_ne, up_s, up_n, pk_us, nI_1, nI_pred, zd_0, zd_1, zc_0, zc_1, hn, q1, h]
    · simp (disch := omega) only [f_X11_person, b_X11_person, ln_0, ln_1, ln_2, io_8, gr_8_0, gr_8_1, gr_8_2, gr_8_3, gr_8_4, gr_8_5, gr_8_6, pr_8_6, gi_8_7, pi_8_7, gi_8_8, pi_8_8, io_9, gr_9_0, gi_9_1, pi_9_1, ln_10, io_11, gr_11_0, gr_11_1, gr_11_2, gi_11_3, pi_11_3, gi_11_4, pi_11_4, gi_11_5, pi_11_5, gi_11_6, pi_11_6, io_12, gr_12_0, gi_12_1, pi_12_1, gi_12_2, pi_12_2, gi_12_3, pi_12_3, gi_12_4, pi_12_4, ln_13, ln_14, io_15, gr_15_0, gr_15_1, gr_15_2, gr_15_3, io_16, gi_16_0, gi_16_1, gr_16_2, gi_16_3, pi_16_3, ln_17, io_18, gi_18_0, gi_18_1, gr_18_2, gi_18_3, pi_18_3, ln_19, io_20, gi_20_0, gi_20_1, gr_20_2, gi_20_3, pi_20_3, ln_21, ln_22, io_23, gi_23_0, gr_23_1, gr_23_2, ln_24, ln_25, ln_26, io_27, gr_27_0, gi_27_1, pi_27_1, gi_27_2, pi_27_2, gi_27_3, pi_27_3, gi_27_4, pi_27_4, gi_27_5, pi_27_5, gi_27_6, pi_27_6, gi_27_7, pi_27_7, gi_27_8, pi_27_8, gi_27_9, pi_27_9, gi_27_10, pi_27_10, gi_27_11, pz_27_11, ln_28, io_29, gr_29_0, gr_29_1, gi_29_2, pi_29_2, gi_29_3, pi_29_3, gi_29_4, pi_29_4, gi_29_5, pi_29_5, gi_29_6, pi_29_6, gi_29_7, pi_29_7, ln_30, ln_31, io_32, gi_32_0, pi_32_0, gr_32_1, gi_32_2, pi_32_2, gr_32_3, gr_32_4, gr_32_5, gr_32_6, gr_32_7, gr_32_8, gr_32_9, gr_32_10, gr_32_11, gr_32_12, gr_32_13, gr_32_14, gr_32_15, gr_32_16, gr_32_17, gi_32_18, pi_32_18, gi_32_19, pi_32_19, gi_32_20, pi_32_20, gi_32_21, pi_32_21, gi_32_22, pi_32_22, gj_32_23, pj_32_23, gi_32_24, pi_32_24, gi_32_25, pi_32_25, gi_32_26, pi_32_26, gi_32_27, pi_32_27, gi_32_28, pi_32_28, gi_32_29, pi_32_29, gi_32_30, pi_32_30, gi_32_31, pi_32_31, gr_32_32, gr_32_33, gr_32_34, gi_32_35, pi_32_35, gi_32_36, pi_32_36, gr_32_37, gr_32_38, gi_32_39, pi_32_39, gi_32_40, pi_32_40, gi_32_41, pz_32_41, gi_32_42, pi_32_42, gi_32_43, pi_32_43, gi_32_44, pi_32_44, gr_32_45, gr_32_46, gr_32_47, gr_32_48, gr_32_49, ln_33, ln_34, ln_35, ln_36, ln_37, ln_38, ln_39, ln_40, ln_41, ln_42, ln_43, ln_44, ln_45, ln_46, ln_47, ln_48, ln_49, ln_50, ln_51, ln_52, ln_53, ln_54, ln_55, ln_56, ln_57, ln_58, ai_0, ai_1, az_1_0, ai_2, az_2_0, az_2_1, az_2_2, az_2_3, ai_10, az_10_0, si_10, sz_10_0, ar_13, ai_14, az_14_0, si_14, sz_14_0, ai_17, az_17_0, si_17, sz_17_0, ai_19, az_19_0, si_19, sz_19_0, ai_21, si_21, ar_22, ar_26, ai_28, az_28_0, si_28, sz_28_0, ai_30, az_30_0, si_30, sz_30_0, ai_31, az_31_0, si_31, sz_31_0, ai_33, az_33_0, si_33, sz_33_0, ai_34, az_34_0, az_34_1, az_34_2, az_34_3, si_34, sz_34_0, sz_34_1, sz_34_2, sz_34_3, ai_35, az_35_0, si_35, sz_35_0, ai_36, az_36_0, si_36, sz_36_0, ai_37, az_37_0, az_37_1, az_37_2, az_37_3, si_37, sz_37_0, sz_37_1, sz_37_2, sz_37_3, ai_38, az_38_0, si_38, sz_38_0, ai_39, az_39_0, si_39, sz_39_0, ai_40, az_40_0, si_40, sz_40_0, ai_41, az_41_0, az_41_1, az_41_2, az_41_3, si_41, sz_41_0, sz_41_1, sz_41_2, sz_41_3, ai_42, si_42, ai_43, az_43_0, si_43, sz_43_0, ai_44, az_44_0, si_44, sz_44_0, ai_45, az_45_0, si_45, sz_45_0, ai_46, si_46, ai_47, si_47, ai_48, si_48, ai_49, az_49_0, si_49, sz_49_0, ai_50, si_50, ai_51, si_51, ai_52, az_52_0, az_52_1, az_52_2, az_52_3, si_52, sz_52_0, sz_52_1, sz_52_2, sz_52_3, ai_53, az_53_0, si_53, sz_53_0, ai_54, az_54_0, az_54_1, az_54_2, si_54, sz_54_0, sz_54_1, sz_54_2, ai_55, az_55_0, az_55_1, az_55_2, si_55, sz_55_0, sz_55_1, sz_55_2, ai_56, az_56_0, az_56_1, az_56_2, si_56, sz_56_0, sz_56_1, sz_56_2, ai_57, az_57_0, az_57_1, az_57_2, si_57, sz_57_0, sz_57_1, sz_57_2, ai_58, az_58_0, az_58_1, az_58_2, si_58, sz_58_0, sz_58_1, sz_58_2, if_true, if_false, Option.bind_some, i1_ne, up_s, up_n, pk_us, nI_1, nI_pred, zd_0, zd_1, zc_0, zc_1, hn, q1, h, h2]
/-- what holds between calls -/
def INV (S : SG) (C : CS) (M : MS) (T : TS) (K : Nat) : Prop := WS S ∧ RC S C T ∧ RM S K M
def Bd (T T' : TS) : Prop := T.1 ≤ T'.1 ∧ T'.1 ≤ T.1 + 40 ∧ T'.2.1 ≤ T.2.1 + 12000
theorem Bd.rf (T : TS) : Bd T T := ⟨Nat.le_refl _, by omega, by omega⟩
theorem MTe.up (h : MTe S K M) : MTe S (K + 1) M := by
  obtain ⟨n, h1, h2⟩ := h
  exact ⟨n, by omega, h2⟩
theorem RM.z (h : RM S K M) : RM S (K + 1) (m0 M 0 0) := by
  obtain ⟨h1, h2, h3, h4, h5, h6, h7⟩ := h
  exact ⟨h1, h2, h3, h4, h5, h6.up, h7⟩
theorem INV.z (h : INV S C M T K) : INV S C (m0 M 0 0) T (K + 1) := ⟨h.1, h.2.1, h.2.2.z⟩
theorem WTld.ppl {t : TLD} (h : WTld t) {p : Nat × Nat} (hl : (t_ppl t).length < 16) (hp1 : p.1 < 256) (hp2 : p.2 < 6) : WTld (t_ppl t ++ [p], t.2) := by
  obtain ⟨h1, h2, h3, h4, h5, h6⟩ := h
  have hL : (t_ppl (t_ppl t ++ [p], t.2)).length = (t_ppl t).length + 1 := by show (t_ppl t ++ [p]).length = _; simp
  refine ⟨by omega, h2, h3, fun i q hq => ?_, fun i q hq => ?_, fun i q hq => ?_⟩
  · rcases ap_some hq with ⟨hq, -⟩ | ⟨-, rfl⟩
    · exact h4 i q hq
    · exact ⟨hp1, hp2⟩
  · have := h5 i q hq
    exact ⟨this.1, this.2.1, by omega⟩
  · have := h6 i q hq
    exact ⟨by omega, this.2⟩
theorem op_person (h : INV S C M T K) (g c : Int32) : ∃ r S' C' M' T', f_X10_person (hp X C M T) (some 8) g c = some (r, hp X C' M T') ∧ f_X11_person (hp X C' M T') (some 32) g c = some (r, hp X C' M' T') ∧ INV S' C' M' T' (K + 1) ∧ Bd T T' := by
  have hz := h.z
  obtain ⟨hW, hC, hM⟩ := h
  have hn : C.1 9 = nI (t_ppl (s_told S)).length := hC.2.1.1
  have hm : M.2.2 3 0 = nI (t_ppl (s_told S)).length := hM.2.1.1
  have hl : (t_ppl (s_told S)).length ≤ 16 := hW.2.2.1.1.1
  rcases upN g 255 (by decide) with ⟨g', hg, rfl⟩ | hg
  · rcases upN c 5 (by decide) with ⟨c', hc, rfl⟩ | hc
    · by_cases h16 : (t_ppl (s_told S)).length < 16
      · refine ⟨_, n_ppl S (g', c'), _, _, T, k_person_t hn h16 hg hc, m_person_t hm h16 hg hc, ?_, Bd.rf T⟩
        obtain ⟨w1, w2, ⟨w3, w4⟩, w5, w6⟩ := hW
        obtain ⟨a1, ⟨b1, b2, b3, b4, b5, b6⟩, a3, a4, a5, mu, a6, a7⟩ := hC
        obtain ⟨m1, ⟨e1, e2, e3, e4, e5, e6⟩, m3, m4, m5, m6, m7⟩ := hM
        refine ⟨⟨w1, w2, ⟨w3.ppl h16 (by omega) (by omega), w4⟩, w5, w6⟩, ⟨a1, ⟨?_, b2, b3, fun i p hp => ?_, b5, b6⟩, a3, a4, a5, mu, a6, a7⟩, ⟨m1, ⟨?_, e2, e3, fun i p hp => ?_, e5, e6⟩, m3, m4, m5, m6.up, ?_⟩⟩
        · show nI _ = nI (t_ppl (s_told S) ++ [(g', c')]).length
          simp
        · rcases ap_some hp with ⟨hp, hi⟩ | ⟨rfl, rfl⟩
          · have := b4 i p hp
            show upd (upd _ _ _) _ _ _ = _ ∧ upd (upd _ _ _) _ _ _ = _
            rw [pk_un (by omega), pk_un (by omega), pk_un (by omega), pk_un (by omega)]
            exact this
          · show upd (upd _ _ _) _ _ _ = _ ∧ upd (upd _ _ _) _ _ _ = _
            rw [pk_un (by omega), pk_us, pk_us]
            exact ⟨rfl, rfl⟩
        · show upd _ 0 _ 0 = nI (t_ppl (s_told S) ++ [(g', c')]).length
          rw [pk_us]
          simp
        · rcases ap_some hp with ⟨hp, hi⟩ | ⟨rfl, rfl⟩
          · have := e4 i p hp
            show upd _ _ _ _ = _ ∧ upd _ _ _ _ = _
            rw [pk_un (by omega), pk_un (by omega)]
            exact this
          · show upd _ _ _ (16 * 0 + _) = _ ∧ upd _ _ _ (16 * 0 + _) = _
            rw [Nat.mul_zero, Nat.zero_add, pk_us, pk_us]
            exact ⟨rfl, rfl⟩
        · exact MIm.agr (S := S) m7 w5 rfl rfl fun j hj => ((agr_lo hj (Or.inl (show (t_ppl (s_told S)).length < 16 by omega))).tr (agr_lo hj (Or.inl (show (t_ppl (s_told S)).length < 16 by omega)))).tr (agr_lo hj (Or.inl (show 0 < 1 by omega)))
      · have e16 : (t_ppl (s_told S)).length = 16 := by omega
        exact ⟨_, S, C, _, T, k_person_f2 (by rw [hn, e16]) hg hc, m_person_f1 hm (Or.inl e16), hz, Bd.rf T⟩
    · refine ⟨_, S, C, _, T, k_person_f (k_can_f2 hg hc), m_person_f1 hm (Or.inr (Or.inr ⟨?_, ?_⟩)), hz, Bd.rf T⟩
      · have p1 := in_t (a := g') (b := 0) (c := 255) (Nat.zero_le _) hg (by decide)
        rwa [nI_0, nI_255] at p1
      · rw [← nI_5]; exact in_f hc
  · exact ⟨_, S, C, _, T, k_person_f (k_can_f1 hg), m_person_f1 hm (Or.inr (Or.inl (by rw [← nI_255]; exact in_f hg))), hz, Bd.rf T⟩
end OPA
