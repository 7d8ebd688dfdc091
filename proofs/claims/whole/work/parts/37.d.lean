section HRS
variable {X : XS} {C : CS} {M : MS} {T : TS} {S : SG} {K : Nat} {mu : List Nat}
theorem enc_d {x : Nat × Nat × Nat} (h1 : x.1 < 7) (h2 : x.2.1 < 1005) (h3 : x.2.2 < 1005) : f_X0_deedOf (nI (encS x)) = some (nI x.1) ∧ f_X0_leftOf (nI (encS x)) = some (nI x.2.1) ∧ f_X0_rightOf (nI (encS x)) = some (nI x.2.2) := by
  have hb : encS x < 2 ^ 32 := by unfold encS; omega
  have n47 : ((2047 : Int32).toBitVec.toNat) = 2 ^ 11 - 1 := by decide
  refine ⟨?_, ?_, ?_⟩
  · simp only [f_X0_deedOf, b_X0_deedOf, ush]
    rw [pk_ushrN hb 22 22 (by decide)]
    congr 2; unfold encS; omega
  · simp only [f_X0_leftOf, b_X0_leftOf, ush]
    rw [pk_ushrN hb 11 11 (by decide), pk_andN (by omega) 11 n47]
    congr 2; unfold encS; omega
  · simp only [f_X0_rightOf, b_X0_rightOf]
    rw [pk_andN hb 11 n47]
    congr 2; unfold encS; omega
/-- the class's stack holds these sets -/
def RKc (f : Nat → Int32) (st : List (Nat → Bool)) : Prop := ∀ i F, st[i]? = some F → ∀ j, j < 32 → bt (f (st.length - 1 - i)) j = (decide (j < 24) && F j)
theorem RKc.push {f : Nat → Int32} {st : List (Nat → Bool)} {F : Nat → Bool} {v : Int32} (h : RKc f st) (hv : ∀ j, j < 32 → bt v j = (decide (j < 24) && F j)) : RKc (upd f st.length v) (F :: st) := by
  intro i G hG j hj
  cases i with
  | zero =>
    cases hG
    rw [List.length_cons, show st.length + 1 - 1 - 0 = st.length by omega, pk_us]
    exact hv j hj
  | succ i =>
    rw [List.getElem?_cons_succ] at hG
    have := at_lt hG
    rw [List.length_cons, pk_un (by omega), show st.length + 1 - 1 - (i + 1) = st.length - 1 - i by omega]
    exact h i G hG j hj
theorem RKc.tl {f : Nat → Int32} {st : List (Nat → Bool)} {F : Nat → Bool} (h : RKc f (F :: st)) : RKc f st := by
  intro i G hG j hj
  have := at_lt hG
  have := h (i + 1) G (by rw [List.getElem?_cons_succ]; exact hG) j hj
  rwa [List.length_cons, show st.length + 1 - 1 - (i + 1) = st.length - 1 - i by omega] at this
theorem RKc.hd {f : Nat → Int32} {st : List (Nat → Bool)} {F : Nat → Bool} (h : RKc f (F :: st)) : ∀ j, j < 32 → bt (f st.length) j = (decide (j < 24) && F j) := by
  intro j hj
  have := h 0 F rfl j hj
  rwa [List.length_cons, show st.length + 1 - 1 - 0 = st.length by omega] at this
/-- one step of a 'when' -/
theorem k_step {e : EV} {h : Nat} {f : Nat → Int32} {st : List (Nat → Bool)} {x : Nat × Nat × Nat} {l : List (Nat × Nat × Nat)} {r : Nat} (s : St C e h) (w : WEv e) (h1 : x.1 < 7) (h2 : x.2.1 < 1005) (h3 : x.2.2 < 1005) (hs : stkS (x :: l) st.length = some r) (hl : st.length ≤ 13) (hk : RKc f st) :
    stkS l (stF e x st).length = some r ∧ (stF e x st).length ≤ 13 ∧ ∃ p f', f_X9_hoursAfter (hp X (kT C f (nI st.length)) M T) (some 30) (nI (encS x)) = some p ∧ f_X9_push p.2 (some 30) p.1 = some (hp X (kT C f' (nI (stF e x st).length)) M T) ∧ RKc f' (stF e x st) := by
  obtain ⟨d1, d2, d3⟩ := enc_d h1 h2 h3
  have s' : St (kT C f (nI st.length)) e h := s
  have lt := fun a b (ha : a < 1005) (hb : b < 1005) => k_less (X := X) (M := M) (T := T) s' w ha hb
  unfold stkS at hs
  by_cases q3 : x.1 < 3
  · rw [if_pos (by omega)] at hs
    have hst : stF e x st = (fun h => cmpS x.1 (vS e h x.2.1) (vS e h x.2.2)) :: st := if_pos q3
    rw [hst]
    obtain ⟨hs1, hs2⟩ := ifN hs
    refine ⟨hs2, by rw [List.length_cons]; omega, ?_⟩
    obtain ⟨r1, c1, c2⟩ := lt _ _ h2 h3
    obtain ⟨r2, c3, c4⟩ := lt _ _ h3 h2
    rcases (show x.1 = 0 ∨ x.1 = 1 ∨ x.1 = 2 by omega) with q | q | q <;> rw [q] at d1
    · refine ⟨(r1, hp X (kT C f (nI st.length)) M T), _, by simp only [f_X9_hoursAfter, b_X9_hoursAfter, io_30, gr_30_0, gi_30_1, gi_30_2, gi_30_3, gi_30_4, gi_30_5, gi_30_6, gi_30_7, gi_30_8, gi_30_9, gi_30_10, gi_30_11, pi_30_1, pi_30_2, pi_30_3, pi_30_4, pi_30_5, pi_30_6, pi_30_7, pi_30_8, pi_30_9, pi_30_10, pz_30_11, ln_31, ai_31, si_31, gr_18_0, gr_18_1, gr_18_2, io_18, if_true, if_false, Option.bind_some, i1_ne, nI_1, nI_pred, up_s, up_n, zd_0, zd_1, zc_0, zc_1, d1, d2, d3, nI_0, c1], k_push (by omega), hk.push fun j hj => ?_⟩
      rw [c2 j hj, q]; rfl
    · refine ⟨((16777215 &&& (r1 ^^^ (-1))) &&& (r2 ^^^ (-1)), hp X (kT C f (nI st.length)) M T), _, by simp only [f_X9_hoursAfter, b_X9_hoursAfter, io_30, gr_30_0, gi_30_1, gi_30_2, gi_30_3, gi_30_4, gi_30_5, gi_30_6, gi_30_7, gi_30_8, gi_30_9, gi_30_10, gi_30_11, pi_30_1, pi_30_2, pi_30_3, pi_30_4, pi_30_5, pi_30_6, pi_30_7, pi_30_8, pi_30_9, pi_30_10, pz_30_11, ln_31, ai_31, si_31, gr_18_0, gr_18_1, gr_18_2, io_18, if_true, if_false, Option.bind_some, i1_ne, nI_1, nI_pred, up_s, up_n, zd_0, zd_1, zc_0, zc_1, d1, d2, d3, nI_1', c1, c3], k_push (by omega), hk.push fun j hj => ?_⟩
      rw [b_and, b_and, bt_alh j hj, bt_not _ hj, bt_not _ hj, c2 j hj, c4 j hj, q]
      by_cases z : j < 24
      · simp only [z, decide_true, Bool.true_and, cmpS, Nat.one_ne_zero, if_false, if_true]
        by_cases z1 : vS e j x.2.1 < vS e j x.2.2
        · simp [z1]; omega
        · by_cases z2 : vS e j x.2.2 < vS e j x.2.1
          · simp [z2]; omega
          · simp [z1, z2]; omega
      · simp [z]
    · refine ⟨(r2, hp X (kT C f (nI st.length)) M T), _, by simp only [f_X9_hoursAfter, b_X9_hoursAfter, io_30, gr_30_0, gi_30_1, gi_30_2, gi_30_3, gi_30_4, gi_30_5, gi_30_6, gi_30_7, gi_30_8, gi_30_9, gi_30_10, gi_30_11, pi_30_1, pi_30_2, pi_30_3, pi_30_4, pi_30_5, pi_30_6, pi_30_7, pi_30_8, pi_30_9, pi_30_10, pz_30_11, ln_31, ai_31, si_31, gr_18_0, gr_18_1, gr_18_2, io_18, if_true, if_false, Option.bind_some, i1_ne, nI_1, nI_pred, up_s, up_n, zd_0, zd_1, zc_0, zc_1, d1, d2, d3, nI_2, c3, show ¬ (2 : Int32) = 0 by decide, show ¬ (2 : Int32) = 1 by decide], k_push (by omega), hk.push fun j hj => ?_⟩
      rw [c4 j hj, q]; rfl
  · by_cases q : x.1 = 3
    · rw [if_pos (by omega)] at hs
      have hst : stF e x st = (fun _ => e_o e) :: st := by unfold stF; rw [if_neg q3, if_pos q]
      rw [hst]
      obtain ⟨hs1, hs2⟩ := ifN hs
      refine ⟨hs2, by rw [List.length_cons]; omega, ?_⟩
      rw [q] at d1
      have s10 : (kT C f (nI st.length)).1 22 = b01 (e_o e) := s.2.2.2.2.2.2.2.2.2
      refine ⟨(cond (e_o e) 16777215 0, hp X (kT C f (nI st.length)) M T), _, ?_, k_push (by omega), hk.push fun j hj => ?_⟩
      · cases ho : e_o e <;> rw [ho] at s10 <;> simp only [f_X9_hoursAfter, b_X9_hoursAfter, io_30, gr_30_0, gi_30_1, gi_30_2, gi_30_3, gi_30_4, gi_30_5, gi_30_6, gi_30_7, gi_30_8, gi_30_9, gi_30_10, gi_30_11, pi_30_1, pi_30_2, pi_30_3, pi_30_4, pi_30_5, pi_30_6, pi_30_7, pi_30_8, pi_30_9, pi_30_10, pz_30_11, ln_31, ai_31, si_31, gr_18_0, gr_18_1, gr_18_2, io_18, if_true, if_false, Option.bind_some, i1_ne, nI_1, nI_pred, up_s, up_n, zd_0, zd_1, zc_0, zc_1, d1, d2, d3, nI_3, s10, show ¬ (3 : Int32) = 0 by decide, show ¬ (3 : Int32) = 1 by decide, show ¬ (3 : Int32) = 2 by decide, b01, cond_true, cond_false]
      · cases ho : e_o e
        · simp [b_0]
        · simp [bt_alh j hj]
    · rw [if_neg (by omega)] at hs
      by_cases q4 : x.1 = 4
      · rw [if_pos q4] at hs
        obtain ⟨hs1, hs2⟩ := ifN hs
        cases st with
        | nil => exact absurd hs1 (by simp)
        | cons a st =>
          have hst : stF e x (a :: st) = (fun h => !(a h)) :: st := by unfold stF; rw [if_neg q3, if_neg q, if_pos q4]
          rw [hst]
          rw [List.length_cons] at hl hs2 ⊢
          refine ⟨hs2, hl, ?_⟩
          rw [q4] at d1
          have pp := k_pop (X := X) (C := C) (M := M) (T := T) (f := f) (n := st.length) (by omega)
          refine ⟨(16777215 &&& (f st.length ^^^ (-1)), hp X (kT C f (nI st.length)) M T), _, by simp only [f_X9_hoursAfter, b_X9_hoursAfter, io_30, gr_30_0, gi_30_1, gi_30_2, gi_30_3, gi_30_4, gi_30_5, gi_30_6, gi_30_7, gi_30_8, gi_30_9, gi_30_10, gi_30_11, pi_30_1, pi_30_2, pi_30_3, pi_30_4, pi_30_5, pi_30_6, pi_30_7, pi_30_8, pi_30_9, pi_30_10, pz_30_11, ln_31, ai_31, si_31, gr_18_0, gr_18_1, gr_18_2, io_18, if_true, if_false, Option.bind_some, i1_ne, nI_1, nI_pred, up_s, up_n, zd_0, zd_1, zc_0, zc_1, d1, d2, d3, nI_4, show ¬ (4 : Int32) = 0 by decide, show ¬ (4 : Int32) = 1 by decide, show ¬ (4 : Int32) = 2 by decide, show ¬ (4 : Int32) = 3 by decide, List.length_cons, pp], k_push (by omega), hk.tl.push fun j hj => ?_⟩
          rw [b_and, bt_alh j hj, bt_not _ hj, hk.hd j hj]
          by_cases z : j < 24 <;> simp [z]
      · rw [if_neg q4] at hs
        obtain ⟨hs1, hs2⟩ := ifN hs
        match st, hs1, hs2, hl, hk with
        | a :: b :: st, hs1, hs2, hl, hk =>
          have hst : stF e x (a :: b :: st) = (fun h => if x.1 = 5 then (a h && b h) else (a h || b h)) :: st := by unfold stF; rw [if_neg q3, if_neg q, if_neg q4]
          rw [hst]
          simp only [List.length_cons] at hl hs2 ⊢
          refine ⟨hs2, by omega, ?_⟩
          have p1 := k_pop (X := X) (C := C) (M := M) (T := T) (f := f) (n := st.length + 1) (by omega)
          have p2 := k_pop (X := X) (C := C) (M := M) (T := T) (f := f) (n := st.length) (by omega)
          have ha := hk.hd
          rw [List.length_cons] at ha
          rcases (show x.1 = 5 ∨ x.1 = 6 by omega) with q5 | q5 <;> rw [q5] at d1
          · refine ⟨(f (st.length + 1) &&& f st.length, hp X (kT C f (nI st.length)) M T), _, by simp only [f_X9_hoursAfter, b_X9_hoursAfter, io_30, gr_30_0, gi_30_1, gi_30_2, gi_30_3, gi_30_4, gi_30_5, gi_30_6, gi_30_7, gi_30_8, gi_30_9, gi_30_10, gi_30_11, pi_30_1, pi_30_2, pi_30_3, pi_30_4, pi_30_5, pi_30_6, pi_30_7, pi_30_8, pi_30_9, pi_30_10, pz_30_11, ln_31, ai_31, si_31, gr_18_0, gr_18_1, gr_18_2, io_18, if_true, if_false, Option.bind_some, i1_ne, nI_1, nI_pred, up_s, up_n, zd_0, zd_1, zc_0, zc_1, d1, d2, d3, nI_5, show ¬ (5 : Int32) = 0 by decide, show ¬ (5 : Int32) = 1 by decide, show ¬ (5 : Int32) = 2 by decide, show ¬ (5 : Int32) = 3 by decide, show ¬ (5 : Int32) = 4 by decide, List.length_cons, p1, p2], k_push (by omega), hk.tl.tl.push fun j hj => ?_⟩
            rw [b_and, ha j hj, hk.tl.hd j hj, q5]
            by_cases z : j < 24 <;> simp [z]
          · refine ⟨(f (st.length + 1) ||| f st.length, hp X (kT C f (nI st.length)) M T), _, by simp only [f_X9_hoursAfter, b_X9_hoursAfter, io_30, gr_30_0, gi_30_1, gi_30_2, gi_30_3, gi_30_4, gi_30_5, gi_30_6, gi_30_7, gi_30_8, gi_30_9, gi_30_10, gi_30_11, pi_30_1, pi_30_2, pi_30_3, pi_30_4, pi_30_5, pi_30_6, pi_30_7, pi_30_8, pi_30_9, pi_30_10, pz_30_11, ln_31, ai_31, si_31, gr_18_0, gr_18_1, gr_18_2, io_18, if_true, if_false, Option.bind_some, i1_ne, nI_1, nI_pred, up_s, up_n, zd_0, zd_1, zc_0, zc_1, d1, d2, d3, nI_6, show ¬ (6 : Int32) = 0 by decide, show ¬ (6 : Int32) = 1 by decide, show ¬ (6 : Int32) = 2 by decide, show ¬ (6 : Int32) = 3 by decide, show ¬ (6 : Int32) = 4 by decide, show ¬ (6 : Int32) = 5 by decide, List.length_cons, p1, p2], k_push (by omega), hk.tl.tl.push fun j hj => ?_⟩
            rw [b_or, ha j hj, hk.tl.hd j hj, q5]
            by_cases z : j < 24 <;> simp [z]
        | [a], hs1, _, _, _ => exact absurd hs1 (by simp)
        | [], hs1, _, _, _ => exact absurd hs1 (by simp)
end HRS
