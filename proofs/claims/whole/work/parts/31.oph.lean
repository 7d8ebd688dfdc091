/-! feed -/
section OPH
variable {X : XS} {C : CS} {M : MS} {T : TS} {S : SG} {K : Nat}
/-- the byte of v that a shift by s brings down -/
def byt (v : Int32) (s : Nat) : Nat := (ush v (nI s) &&& 255).toBitVec.toNat % 256
theorem byt_lt (v : Int32) (s : Nat) : byt v s < 256 := Nat.mod_lt _ (by decide)
theorem byt_c (v : Int32) (s : Nat) : ush v (nI s) &&& 255 = nI (byt v s) := by
  have h := pk_and (ush v (nI s)) (m := 255) 8 (by decide)
  have h2 := pk_and (ush v (nI s) &&& 255) (m := 255) 8 (by decide)
  have e : ush v (nI s) &&& 255 &&& 255 = ush v (nI s) &&& 255 := by
    refine b_ext fun i _ => ?_
    simp only [b_and, Bool.and_assoc, Bool.and_self]
  rw [e] at h2
  exact h2
theorem byt_m (v : Int32) (s : Nat) (hs : s ≤ 24) : (v >>> (nI s &&& 31)).toInt8.toInt32.toInt8.toInt32 &&& 255 = nI (byt v s) := by
  rw [← byt_c, bp_b, bp_b]
  refine b_ext fun i hi => ?_
  rw [b_and, b_and, b_255]
  by_cases h8 : i < 8
  · rw [b_sshr s (by omega) v hi, if_pos (by omega)]
    unfold ush
    rw [b_ushr s (by omega) v i]
  · simp [h8]
theorem s24 : (24 : Int32) = nI 24 := by decide
theorem s24a : nI 24 + (-8) = nI 16 := by decide
theorem s16a : nI 16 + (-8) = nI 8 := by decide
theorem s8a : nI 8 + (-8) = nI 0 := by decide
theorem s0a : nI 0 + (-8) < 0 := by decide
/-- four bytes behind n *)-/
def put4 (f : Nat → Int32) (n : Nat) (x0 x1 x2 x3 : Int32) : Nat → Int32 := upd (upd (upd (upd f n x0) (n + 1) x1) (n + 2) x2) (n + 3) x3
theorem k_put (N : Nat) (hN : 5 ≤ N) {n : Nat} (hn : C.1 0 = nI n) (h : n + 4 ≤ 600) (v : Int32) : f_X6_put N (hp X C M T) (some 9) v = some (hp X (c0 (ca C 0 (put4 (C.2.1 0) n (nI (byt v 24)) (nI (byt v 16)) (nI (byt v 8)) (nI (byt v 0)))) 0 (nI (n + 4))) M T) := by
  obtain ⟨k, rfl⟩ : ∃ k, N = k + 5 := ⟨N - 5, by omega⟩
  have st : ∀ (m : Nat) (C : CS) (n s : Nat), C.1 0 = nI n → n < 600 → s ≤ 24 → l_X6_put_3 (k + 5) (m + 1) (hp X C M T) (some 9) v (nI s) = l_X6_put_3 (k + 5) m (hp X (c0 (ca C 0 (upd (C.2.1 0) n (nI (byt v s)))) 0 (nI (n + 1))) M T) (some 9) v (nI s + (-8)) := by
    intro m C n s hn h hs
    have g1 : ¬ nI s < 0 := nI_pos (by omega)
    have g2 : ¬ nI 600 ≤ nI n := nI_ge h (by decide)
    simp (disch := omega) only [l_X6_put_3, b_X6_put_3, ln_0, ln_1, ln_2, io_8, gr_8_0, gr_8_1, gr_8_2, gr_8_3, gr_8_4, gr_8_5, gr_8_6, pr_8_6, gi_8_7, pi_8_7, gi_8_8, pi_8_8, io_9, gr_9_0, gi_9_1, pi_9_1, ln_10, io_11, gr_11_0, gr_11_1, gr_11_2, gi_11_3, pi_11_3, gi_11_4, pi_11_4, gi_11_5, pi_11_5, gi_11_6, pi_11_6, io_12, gr_12_0, gi_12_1, pi_12_1, gi_12_2, pi_12_2, gi_12_3, pi_12_3, gi_12_4, pi_12_4, ln_13, ln_14, io_15, gr_15_0, gr_15_1, gr_15_2, gr_15_3, io_16, gi_16_0, gi_16_1, gr_16_2, gi_16_3, pi_16_3, ln_17, io_18, gi_18_0, gi_18_1, gr_18_2, gi_18_3, pi_18_3, ln_19, io_20, gi_20_0, gi_20_1, gr_20_2, gi_20_3, pi_20_3, ln_21, ln_22, io_23, gi_23_0, gr_23_1, gr_23_2, ln_24, ln_25, ln_26, io_27, gr_27_0, gi_27_1, pi_27_1, gi_27_2, pi_27_2, gi_27_3, pi_27_3, gi_27_4, pi_27_4, gi_27_5, pi_27_5, gi_27_6, pi_27_6, gi_27_7, pi_27_7, gi_27_8, pi_27_8, gi_27_9, pi_27_9, gi_27_10, pi_27_10, gi_27_11, pz_27_11, ln_28, io_29, gr_29_0, gr_29_1, gi_29_2, pi_29_2, gi_29_3, pi_29_3, gi_29_4, pi_29_4, gi_29_5, pi_29_5, gi_29_6, pi_29_6, gi_29_7, pi_29_7, ln_30, ln_31, io_32, gi_32_0, pi_32_0, gr_32_1, gi_32_2, pi_32_2, gr_32_3, gr_32_4, gr_32_5, gr_32_6, gr_32_7, gr_32_8, gr_32_9, gr_32_10, gr_32_11, gr_32_12, gr_32_13, gr_32_14, gr_32_15, gr_32_16, gr_32_17, gi_32_18, pi_32_18, gi_32_19, pi_32_19, gi_32_20, pi_32_20, gi_32_21, pi_32_21, gi_32_22, pi_32_22, gj_32_23, pj_32_23, gi_32_24, pi_32_24, gi_32_25, pi_32_25, gi_32_26, pi_32_26, gi_32_27, pi_32_27, gi_32_28, pi_32_28, gi_32_29, pi_32_29, gi_32_30, pi_32_30, gi_32_31, pi_32_31, gr_32_32, gr_32_33, gr_32_34, gi_32_35, pi_32_35, gi_32_36, pi_32_36, gr_32_37, gr_32_38, gi_32_39, pi_32_39, gi_32_40, pi_32_40, gi_32_41, pz_32_41, gi_32_42, pi_32_42, gi_32_43, pi_32_43, gi_32_44, pi_32_44, gr_32_45, gr_32_46, gr_32_47, gr_32_48, gr_32_49, ln_33, ln_34, ln_35, ln_36, ln_37, ln_38, ln_39, ln_40, ln_41, ln_42, ln_43, ln_44, ln_45, ln_46, ln_47, ln_48, ln_49, ln_50, ln_51, ln_52, ln_53, ln_54, ln_55, ln_56, ln_57, ln_58, ai_0, ai_1, az_1_0, ai_2, az_2_0, az_2_1, az_2_2, az_2_3, ai_10, az_10_0, si_10, sz_10_0, ar_13, ai_14, az_14_0, si_14, sz_14_0, ai_17, az_17_0, si_17, sz_17_0, ai_19, az_19_0, si_19, sz_19_0, ai_21, si_21, ar_22, ar_26, ai_28, az_28_0, si_28, sz_28_0, ai_30, az_30_0, si_30, sz_30_0, ai_31, az_31_0, si_31, sz_31_0, ai_33, az_33_0, si_33, sz_33_0, ai_34, az_34_0, az_34_1, az_34_2, az_34_3, si_34, sz_34_0, sz_34_1, sz_34_2, sz_34_3, ai_35, az_35_0, si_35, sz_35_0, ai_36, az_36_0, si_36, sz_36_0, ai_37, az_37_0, az_37_1, az_37_2, az_37_3, si_37, sz_37_0, sz_37_1, sz_37_2, sz_37_3, ai_38, az_38_0, si_38, sz_38_0, ai_39, az_39_0, si_39, sz_39_0, ai_40, az_40_0, si_40, sz_40_0, ai_41, az_41_0, az_41_1, az_41_2, az_41_3, si_41, sz_41_0, sz_41_1, sz_41_2, sz_41_3, ai_42, si_42, ai_43, az_43_0, si_43, sz_43_0, ai_44, az_44_0, si_44, sz_44_0, ai_45, az_45_0, si_45, sz_45_0, ai_46, si_46, ai_47, si_47, ai_48, si_48, ai_49, az_49_0, si_49, sz_49_0, ai_50, si_50, ai_51, si_51, ai_52, az_52_0, az_52_1, az_52_2, az_52_3, si_52, sz_52_0, sz_52_1, sz_52_2, sz_52_3, ai_53, az_53_0, si_53, sz_53_0, ai_54, az_54_0, az_54_1, az_54_2, si_54, sz_54_0, sz_54_1, sz_54_2, ai_55, az_55_0, az_55_1, az_55_2, si_55, sz_55_0, sz_55_1, sz_55_2, ai_56, az_56_0, az_56_1, az_56_2, si_56, sz_56_0, sz_56_1, sz_56_2, ai_57, az_57_0, az_57_1, az_57_2, si_57, sz_57_0, sz_57_1, sz_57_2, ai_58, az_58_0, az_58_1, az_58_2, si_58, sz_58_0, sz_58_1, sz_58_2, if_true, if_false, Option.bind_some, i1_ne, up_s, up_n, pk_us, nI_1, nI_pred, zd_0, zd_1, zc_0, zc_1, c0_1, c0_2, ca_1, ca_21, ca_22, cr_1, cr_21, cr_22, m0_1, m0_2, ma_1, ma_21, ma_22, c0c0, caca, crcr, m0m0, mama, g1, g2, hn, byt_c]
  have e0 := st (k + 4) C n 24 hn (by omega) (by omega)
  have e1 := st (k + 3) (c0 (ca C 0 (upd (C.2.1 0) n (nI (byt v 24)))) 0 (nI (n + 1))) (n + 1) 16 rfl (by omega) (by omega)
  have e2 := st (k + 2) (c0 (ca C 0 (upd (upd (C.2.1 0) n (nI (byt v 24))) (n + 1) (nI (byt v 16)))) 0 (nI (n + 2))) (n + 2) 8 rfl (by omega) (by omega)
  have e3 := st (k + 1) (c0 (ca C 0 (upd (upd (upd (C.2.1 0) n (nI (byt v 24))) (n + 1) (nI (byt v 16))) (n + 2) (nI (byt v 8)))) 0 (nI (n + 3))) (n + 3) 0 rfl (by omega) (by omega)
  sorry
end OPH
