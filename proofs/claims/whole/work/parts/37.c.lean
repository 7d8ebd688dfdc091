section HRS
variable {X : XS} {C : CS} {M : MS} {T : TS} {S : SG} {K : Nat} {mu : List Nat}
theorem n1000 : nI 1000 = 1000 := rfl
theorem vS_1000 {e : EV} {j : Nat} : vS e j 1000 = j := by unfold vS; rw [if_pos rfl]
theorem ne_1000 {c : Nat} (h1 : c < 1005) (h2 : c ≠ 1000) : ¬ nI c = 1000 := fun z => h2 ((nI_eq (b := 1000) (by omega) (by omega)).mp (z.trans n1000.symm))
theorem k_value2 {e : EV} {h c : Nat} (s : St C e h) (h1 : c < 1005) (h2 : c ≠ 1000) : f_X9_value (hp X C M T) (some 30) (nI c) = some (nI (vS e 0 c)) := by
  have := k_value (X := X) (M := M) (T := T) s h2
  rwa [if_pos h1] at this
theorem less_hh : f_X9_hoursLess (hp X C M T) (some 30) 1000 1000 = some 0 := by
  simp only [f_X9_hoursLess, b_X9_hoursLess, io_30, gr_30_0, gi_30_1, gi_30_2, gi_30_3, gi_30_4, gi_30_5, gi_30_6, gi_30_7, gi_30_8, gi_30_9, gi_30_10, gi_30_11, pi_30_1, pi_30_2, pi_30_3, pi_30_4, pi_30_5, pi_30_6, pi_30_7, pi_30_8, pi_30_9, pi_30_10, pz_30_11, ln_31, ai_31, si_31, gr_18_0, gr_18_1, gr_18_2, io_18, if_true, if_false, Option.bind_some, i1_ne, nI_1, nI_pred, up_s, up_n, zd_0, zd_1, zc_0, zc_1]
theorem less_hb {v r : Int32} {b : Int32} (hb : ¬ b = 1000) (h1 : f_X9_value (hp X C M T) (some 30) b = some v) (h2 : f_X9_hoursBelow v = some r) : f_X9_hoursLess (hp X C M T) (some 30) 1000 b = some r := by
  simp only [f_X9_hoursLess, b_X9_hoursLess, io_30, gr_30_0, gi_30_1, gi_30_2, gi_30_3, gi_30_4, gi_30_5, gi_30_6, gi_30_7, gi_30_8, gi_30_9, gi_30_10, gi_30_11, pi_30_1, pi_30_2, pi_30_3, pi_30_4, pi_30_5, pi_30_6, pi_30_7, pi_30_8, pi_30_9, pi_30_10, pz_30_11, ln_31, ai_31, si_31, gr_18_0, gr_18_1, gr_18_2, io_18, if_true, if_false, Option.bind_some, i1_ne, nI_1, nI_pred, up_s, up_n, zd_0, zd_1, zc_0, zc_1, hb, h1, h2]
theorem less_ah {v r : Int32} {a : Int32} (ha : ¬ a = 1000) (h1 : f_X9_value (hp X C M T) (some 30) a = some v) (h2 : f_X9_hoursBelow (v + 1) = some r) : f_X9_hoursLess (hp X C M T) (some 30) a 1000 = some (16777215 &&& (r ^^^ (-1))) := by
  unfold f_X9_hoursLess b_X9_hoursLess
  rw [io_30, if_pos rfl, if_neg ha, if_pos rfl, h1, Option.bind_some, h2, Option.bind_some]
theorem less_ab {v u a b : Int32} (ha : ¬ a = 1000) (hb : ¬ b = 1000) (h1 : f_X9_value (hp X C M T) (some 30) a = some v) (h2 : f_X9_value (hp X C M T) (some 30) b = some u) : f_X9_hoursLess (hp X C M T) (some 30) a b = if u ≤ v then some 0 else some 16777215 := by
  simp only [f_X9_hoursLess, b_X9_hoursLess, io_30, gr_30_0, gi_30_1, gi_30_2, gi_30_3, gi_30_4, gi_30_5, gi_30_6, gi_30_7, gi_30_8, gi_30_9, gi_30_10, gi_30_11, pi_30_1, pi_30_2, pi_30_3, pi_30_4, pi_30_5, pi_30_6, pi_30_7, pi_30_8, pi_30_9, pi_30_10, pz_30_11, ln_31, ai_31, si_31, gr_18_0, gr_18_1, gr_18_2, io_18, if_true, if_false, Option.bind_some, i1_ne, nI_1, nI_pred, up_s, up_n, zd_0, zd_1, zc_0, zc_1, ha, hb, h1, h2]
theorem k_less {e : EV} {h a b : Nat} (s : St C e h) (w : WEv e) (ha : a < 1005) (hb : b < 1005) : ∃ r, f_X9_hoursLess (hp X C M T) (some 30) (nI a) (nI b) = some r ∧ ∀ j, j < 32 → bt r j = (decide (j < 24) && decide (vS e j a < vS e j b)) := by
  have lt : ∀ c, c < 1005 → vS e 0 c < 1005 := fun c hc => vS_lt w (by omega) hc
  have la := lt a ha
  have lb := lt b hb
  by_cases qa : a = 1000
  · by_cases qb : b = 1000
    · refine ⟨0, ?_, fun j hj => ?_⟩
      · rw [qa, qb, n1000]; exact less_hh
      · rw [b_0, qa, qb]; simp
    · obtain ⟨r, h1, h2⟩ := k_below (vS e 0 b) (by omega)
      refine ⟨r, ?_, fun j hj => ?_⟩
      · rw [qa, n1000]; exact less_hb (ne_1000 hb qb) (k_value2 s hb qb) h1
      · rw [h2 j hj, qa, vS_1000, vS_h (h := j) qb]
  · by_cases qb : b = 1000
    · obtain ⟨r, h1, h2⟩ := k_below (vS e 0 a + 1) (by omega)
      refine ⟨16777215 &&& (r ^^^ (-1)), ?_, fun j hj => ?_⟩
      · rw [qb, n1000]; exact less_ah (ne_1000 ha qa) (k_value2 s ha qa) (by rw [nI_1]; exact h1)
      · rw [b_and, bt_alh j hj, bt_not r hj, h2 j hj, qb, vS_1000, vS_h (h := j) qa]
        by_cases z : j < 24
        · simp only [z, decide_true, Bool.true_and]
          rw [← decide_not]
          exact decide_eq_decide.mpr (by omega)
        · simp [z]
    · have ia : ∀ j, vS e j a = vS e 0 a := fun j => vS_h qa
      have ib : ∀ j, vS e j b = vS e 0 b := fun j => vS_h qb
      have e0 := less_ab (X := X) (C := C) (M := M) (T := T) (ne_1000 ha qa) (ne_1000 hb qb) (k_value2 s ha qa) (k_value2 s hb qb)
      by_cases q : vS e 0 a < vS e 0 b
      · refine ⟨16777215, ?_, fun j hj => ?_⟩
        · rw [e0, if_neg (nI_ge q (by omega))]
        · rw [bt_alh j hj, ia, ib]; simp [q]
      · refine ⟨0, ?_, fun j hj => ?_⟩
        · rw [e0, if_pos (nI_le (by omega) (by omega))]
        · rw [b_0, ia, ib, show decide (vS e 0 a < vS e 0 b) = false by simp; omega, Bool.and_false]
end HRS
