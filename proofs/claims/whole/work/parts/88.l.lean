/-! rules: the call -/
section OPR
section OPRA
variable {A A1 A2 A3 A4 A5 : LH} {q q0 q1 ql : Option Nat} {N p : Nat} {v x y n : Int32}
theorem kr_no (h0 : isO A q 10 = true) (h1 : f_X10_isIn v 4 = some 0) : f_X10_rules N A q v = some (-2, A) := by
  unfold f_X10_rules b_X10_rules
  rw [if_pos h0, bnd_eq h1, if_pos rfl]
theorem kr_f (h0 : isO A q 10 = true) (h1 : f_X10_isIn v 4 = some 1) (h2 : gR A q 10 1 = some q1) (h3 : f_X2_read N A q1 = some (none, A1)) (h4 : gR A1 q 10 0 = some q0) (h5 : pF A1 q0 6 1 (LI 0) = some A2) (h6 : gR A2 q 10 1 = some q1) (h7 : gI A2 q1 2 5 = some x) (h8 : pF A2 q 10 7 (LI x) = some A3) (h9 : gR A3 q 10 1 = some q1) (h10 : gI A3 q1 2 6 = some y) (h11 : pF A3 q 10 8 (LI y) = some A4) : f_X10_rules N A q v = some (-1, A4) := by
  unfold f_X10_rules b_X10_rules
  rw [if_pos h0, bnd_eq h1, if_neg i1_ne, bnd_eq h2, bnd_eq h3, bnd_eq h4, bnd_eq h5, bnd_eq h6, bnd_eq h7, bnd_eq h8, bnd_eq h9, bnd_eq h10, bnd_eq h11]
  exact if_pos rfl
theorem kr_t (h0 : isO A q 10 = true) (h1 : f_X10_isIn v 4 = some 1) (h2 : gR A q 10 1 = some q1) (h3 : f_X2_read N A q1 = some (some p, A1)) (h4 : gR A1 q 10 0 = some q0) (h5 : pF A1 q0 6 1 (LI 0) = some A2) (h6 : gR A2 q 10 1 = some q1) (h7 : gI A2 q1 2 5 = some x) (h8 : pF A2 q 10 7 (LI x) = some A3) (h9 : gR A3 q 10 1 = some q1) (h10 : gI A3 q1 2 6 = some y) (h11 : pF A3 q 10 8 (LI y) = some A4) (h12 : f_X10_putRules A4 q v (some p) = some A5) (h13 : gR A5 (some p) 3 1 = some ql) (h14 : ln6 A5 ql = some n) : f_X10_rules N A q v = some (n, A5) := by
  unfold f_X10_rules b_X10_rules
  rw [if_pos h0, bnd_eq h1, if_neg i1_ne, bnd_eq h2, bnd_eq h3, bnd_eq h4, bnd_eq h5, bnd_eq h6, bnd_eq h7, bnd_eq h8, bnd_eq h9, bnd_eq h10, bnd_eq h11]
  exact (if_neg (fun z => nomatch z)).trans ((bnd_eq h12).trans ((bnd_eq h13).trans (bnd_eq h14)))
end OPRA
variable {X : XS} {C : CS} {M : MS} {T : TS} {S : SG} {K : Nat} {mu : List Nat}
theorem RIM.gr {T' : TS} {r : Nat → Option Nat} {md : Option Nat} (h : RIM mu T S r md) (g : Gr T T') (h51 : 54 ≤ T.1) : RIM mu T' S r md := by
  obtain ⟨o0, o1, o2, om, f1, f2, f3, f4, f5⟩ := h
  have ex1 : Ex mu T mu T' := g.ex h51
  have hmu : ∀ p, p ∈ mu → gD T' p = gD T p := fun p hp' => g.gD (f3 p hp').2
  refine ⟨o0, o1, o2, om, f1, f2, fun p hp' => ⟨(f3 p hp').1, by have := (f3 p hp').2; have := g.1; omega⟩, fun j o hj => ?_, ?_⟩
  · have h3 := f4 j o hj
    have hin : ∀ p, p ∈ o → p ∈ mu := fun p hp' => by
      have hj3 := at_lt hj
      rw [f1]
      rcases (show j = 0 ∨ j = 1 ∨ j = 2 by simp at hj3; omega) with rfl | rfl | rfl <;> (cases hj; simp [hp'])
    cases hsi : s_img S j with
    | none => rw [hsi] at h3; exact h3
    | some t' =>
      rw [hsi] at h3
      obtain ⟨q', h4, h5⟩ := h3
      exact ⟨q', h4, h5.ex ex1 (fun p hp' => hmu p (hin p hp'))⟩
  · cases hm : s_mend S with
    | none => rw [hm] at f5; exact f5
    | some m =>
      rw [hm] at f5
      obtain ⟨qm, g1, g2, g3⟩ := f5
      refine ⟨qm, g1, g2, ?_⟩
      unfold isMd at g3 ⊢
      rw [hmu qm (by rw [f1, g2]; simp)]
      exact g3
/-- a FAULT -/
def n_flt (S : SG) (f : Int32 × Int32) : SG := ([], s_told S, s_img S, f, s_mend S)
theorem WS_flt {f : Int32 × Int32} (h : WS S) : WS (n_flt S f) := by
  obtain ⟨w1, w2, w3, w5, w6⟩ := h
  exact ⟨Nat.zero_le _, fun x hx => (nomatch hx), w3, w5, w6⟩
theorem RM_flt {M' : MS} (hW : WS S) (h : RM S K M) (h2 : M'.1 2 = 0) (hj : ∀ j, j ≠ 0 → j ≠ 36 → j ≠ 2 → j < 18 ∨ 35 < j → M'.1 j = M.1 j) (h36 : M'.1 36 = M.1 36) (hr : ∀ j, j ≠ 32 → j ≠ 33 → j ≠ 34 → M'.2.2 j = M.2.2 j) : RM (n_flt S (M'.1 24, M'.1 25)) (K + 1) M' := by
  obtain ⟨m1, m2, m3, m4, m5, m6, m7⟩ := h
  have hA : ∀ j, Agr j M.2.2 M'.2.2 := fun j a i hi => by
    by_cases e : a = 32 ∨ a = 33 ∨ a = 34
    · rcases e with rfl | rfl | rfl <;> exact absurd hi (Nat.not_lt_zero _)
    · rw [hr a (by omega) (by omega) (by omega)]
  have wt := hW.2.2.1
  refine ⟨⟨by rw [h2]; rfl, fun i x hx => (nomatch hx)⟩, m2.agr wt.1 (hA 0), m3.agr wt.2 (hA 0), rfl, ?_, ?_, fun k hk => ?_⟩
  · show match s_mend S with
      | none => M'.1 41 = 0
      | some m => M'.1 41 = 1 ∧ M'.1 42 = nI m.1 ∧ M'.1 44 = nI m.2.1.length ∧ (m.2.2 = true ↔ M'.2.2 37 m.1 = M'.1 43) ∧ ∀ (i : Nat) (c : Nat × Nat), m.2.1[i]? = some c → M'.2.2 45 i = nI c.1 ∧ M'.2.2 46 i = nI c.2
    rw [hj 41 (by decide) (by decide) (by decide) (by decide), hj 42 (by decide) (by decide) (by decide) (by decide), hj 43 (by decide) (by decide) (by decide) (by decide), hj 44 (by decide) (by decide) (by decide) (by decide), hr 37 (by decide) (by decide) (by decide), hr 45 (by decide) (by decide) (by decide), hr 46 (by decide) (by decide) (by decide)]
    exact m5
  · obtain ⟨n, t1, t2, t3, t4⟩ := m6
    refine ⟨n, by omega, h36.trans t2, fun i hi => ?_, fun hm => ?_⟩
    · rw [hr 37 (by decide) (by decide) (by decide)]; exact t3 i hi
    · rw [hj 43 (by decide) (by decide) (by decide) (by decide)]; exact t4 hm
  · have := m7 k hk
    show match s_img S k with
      | none => M'.2.2 49 k = 0
      | some t => M'.2.2 49 k = 1 ∧ MTab t (k + 1) M'.2.2 ∧ MSl M'.2.2 (k + 1) (t_sl t)
    rw [hr 49 (by decide) (by decide) (by decide)]
    cases hsi : s_img S k with
    | none => rw [hsi] at this; exact this
    | some t =>
      rw [hsi] at this
      have w := hW.2.2.2.1 k t hk hsi
      exact ⟨this.1, this.2.1.agr w.1 (hA (k + 1)), this.2.2.agr w.2 (hA (k + 1))⟩
theorem op_rules (N : Nat) (hN : 700 ≤ N) (hK : K < 1000) (h : INV S C M T K) (x : Int32) : ∃ r S' C' M' T', f_X10_rules N (hp X C M T) (some 8) x = some (r, hp X C' M T') ∧ f_X11_rules N (hp X C' M T') (some 35) x = some (r, hp X C' M' T') ∧ INV S' C' M' T' (K + 1) ∧ Bd T T' := by
  have hz := h.z
  rcases i_cases x 4 (by decide) with ⟨s, hs, rfl⟩ | hx
  case inr => exact ⟨-2, S, C, m0 M 0 0, T, kr_no io_8 (isIn_f hx), ru_no io_35 (pi_35_0 0) (isSl_f hx), hz, Bd.rf T⟩
  obtain ⟨hW, hC, hM⟩ := h
  obtain ⟨a1, a2, a3, a4, a5, mu, a6, a7⟩ := hC
  have hlen := hW.1
  have hb := hW.2.1
  have hmu : ∀ y ∈ mu, y < 8 + T.1 := fun y hy => by
    obtain ⟨o0, o1, o2, om, f1, f2, f3, -⟩ := a7
    exact (f3 y hy).2
  obtain ⟨nn, t1, t2, t3, t4⟩ := hM.2.2.2.2.2.1
  obtain ⟨q, C1, T1, k1, k2, k3, k4, k5, k6, k7, k8⟩ := k_read (X := X) (C := C) (M := M) (T := T) (tp := s_tape S) (mu := mu) hN a4 hmu ⟨a1, hlen, hb⟩
  have e1 := isIn_n hs (show 4 < 2 ^ 31 by decide)
  rw [nI_4] at e1
  obtain ⟨C2, hC2⟩ : ∃ C2, C2 = c0 (c0 (c0 C1 0 0) 29 (C1.1 7)) 30 (C1.1 8) := ⟨_, rfl⟩
  have p0 : pF (hp X C1 M T1) (some 9) 6 1 (LI 0) = some (hp X (c0 C1 0 0) M T1) := pi_9_1 0
  have p7 : gI (hp X (c0 C1 0 0) M T1) (some 11) 2 5 = some (C1.1 7) := by rw [gi_11_5, c0_n (by decide)]
  have p8 : gI (hp X (c0 (c0 C1 0 0) 29 (C1.1 7)) M T1) (some 11) 2 6 = some (C1.1 8) := by rw [gi_11_6, c0_n (by decide), c0_n (by decide)]
  have pf : pF (hp X (c0 (c0 C1 0 0) 29 (C1.1 7)) M T1) (some 8) 10 8 (LI (C1.1 8)) = some (hp X C2 M T1) := by rw [hC2]; exact pi_8_8 _
  have c0' : C2.1 0 = 0 := by rw [hC2, c0_n (by decide), c0_n (by decide), c0_s]
  have c29 : (C2.1 29, C2.1 30) = fltR (pRules (s_tape S)) := by rw [hC2, c0_s, c0_n (by decide), c0_s]; exact k2
  have cj : ∀ j, 8 < j ∧ j < 31 → j ≠ 29 → j ≠ 30 → C2.1 j = C.1 j := fun j h1 h2 h3 => by rw [hC2, c0_n h3, c0_n h2, c0_n (by omega)]; exact k4.1 j (Or.inr h1)
  have cr2 : C2.2 = C1.2 := by rw [hC2]; rfl
  have rtab : RTab (s_told S) (C2.1 9) (C2.1 10) (C2.1 11) (C2.2.1 2) (C2.2.1 3) (C2.2.1 4) := by
    rw [cj 9 (by decide) (by decide) (by decide), cj 10 (by decide) (by decide) (by decide), cj 11 (by decide) (by decide) (by decide), cr2, k4.2.2 2 (by decide), k4.2.2 3 (by decide), k4.2.2 4 (by decide)]
    exact a2
  have rt0 : RTape [] (C2.1 0) (C2.2.1 0) := ⟨by rw [c0']; rfl, fun i x hx => (nomatch hx)⟩
  have ex1 : Ex mu T mu T1 := k5.ex a4
  have h51 : 54 ≤ T1.1 := by have := k5.1; omega
  have a7' : RIM mu T1 S (C2.2.2 2) (C2.2.2 3 0) := by
    rw [cr2, k4.2.1 2 (by decide), k4.2.1 3 (by decide)]
    exact a7.gr k5 a4
  have a6' : RSl mu T1 (t_sl (s_told S)) (C2.2.2 1) := by
    rw [cr2, k4.2.1 1 (by decide)]
    exact a6.ex ex1
  have ab1 : ∀ p, 8 + T1.1 ≤ p → T1.2.2 p = ab_ := fun p hp' => by
    have := k5.1
    rw [k8 p hp']; exact a5 p (by omega)
  cases hR : rulR (pRules (s_tape S)) with
  | none =>
    rw [hR] at k3
    have k3 : q = none := k3
    subst k3
    have cl := kr_f (N := N) io_8 e1 gr_8_1 k1 gr_8_0 p0 gr_8_1 p7 (pi_8_7 _) gr_8_1 p8 pf
    obtain ⟨r, M', b1, b2, b3, b4, b5⟩ := m_rules (X := X) (C := C2) (M := M) (T := T1) (tp := s_tape S) (t := nn) hN hs hM.1 hlen hb t2
    rw [hR] at b5
    obtain ⟨b6, b7, b8⟩ := b5
    subst b6
    refine ⟨-1, n_flt S (M'.1 24, M'.1 25), C2, M', T1, cl, b1, ⟨WS_flt hW, ⟨rt0, rtab, ?_, h51, ab1, mu, a6', a7'.sm rfl rfl⟩, RM_flt hW hM b3 b4 b7 b8⟩, k5.1, by omega, by omega⟩
    show (M'.1 24, M'.1 25) = _
    rw [b2, c29]
  | some rs =>
    rw [hR] at k3
    obtain ⟨p, rfl, p59, hrl⟩ := k3
    have hpr : ∃ n, pRules (s_tape S) = .inr (rs, n) ∧ n = none := by
      unfold rulR at hR
      cases hP : pRules (s_tape S) with
      | inl e => rw [hP] at hR; cases hR
      | inr y =>
        rw [hP] at hR
        obtain ⟨y1, y2⟩ := y
        cases y2 with
        | none => cases hR; exact ⟨none, rfl, rfl⟩
        | some z => cases hR
    obtain ⟨n0, hpr, rfl⟩ := hpr
    have wr := pr_ok hb hlen hpr
    obtain ⟨T2, d1, d2, d3, d4, d5, d6⟩ := k_putR (X := X) (C := C2) (M := M) (S := S) hs (fun m' hm' => (hW.2.2.2.2 m' hm').1) a7' hrl p59
    have c2' : isRl mu T2 p rs := hrl.ex d4
    obtain ⟨ql', l1, l2, -⟩ := rl_ln (X := X) (C := cr C2 1 (va_up (C2.2.2 1) s (some p))) (M := M) c2'
    have cl := kr_t (N := N) io_8 e1 gr_8_1 k1 gr_8_0 p0 gr_8_1 p7 (pi_8_7 _) gr_8_1 p8 pf d1 l1 l2
    obtain ⟨r, M', b1, b2, b3, b4, b5⟩ := m_rules (X := X) (C := cr C2 1 (va_up (C2.2.2 1) s (some p))) (M := M) (T := T2) (tp := s_tape S) (t := nn) hN hs hM.1 hlen hb t2
    rw [hR] at b5
    obtain ⟨b6, b7, b8, b9, b10, o1, o2, o3⟩ := b5
    subst b6
    have hA : ∀ j, 0 < j → Agr j M.2.2 M'.2.2 := fun j hj a i hi => by
      by_cases e1 : a < 13 ∨ 37 < a
      · rw [b8 a e1]
      · by_cases e2 : a = 13 ∨ a = 14
        · have hsz : szA a = 4 := by rcases e2 with rfl | rfl <;> rfl
          rw [hsz] at hi ⊢
          have := o1 (4 * j + i) (by omega)
          rcases e2 with rfl | rfl
          · exact this.1
          · exact this.2
        · by_cases e3 : a = 15
          · subst e3
            have hsz : szA 15 = 384 := rfl
            rw [hsz] at hi ⊢
            exact o2 _ (by omega)
          · by_cases e4 : a = 16 ∨ a = 17
            · have hsz : szA a = 3600 := by rcases e4 with rfl | rfl <;> rfl
              rw [hsz] at hi ⊢
              have := o3 (3600 * j + i) (by omega)
              rcases e4 with rfl | rfl
              · exact this.1
              · exact this.2
            · exfalso
              unfold szA at hi
              rw [if_neg (by omega), if_neg (by omega), if_neg (by omega), if_neg (by omega), if_neg (by omega), if_neg (by omega), if_neg (by omega)] at hi
              exact absurd hi (Nat.not_lt_zero _)
    have bb : ∀ a, a < 13 ∨ 37 < a → M'.2.2 a = M.2.2 a := b8
    have rmr := RM_rules (S := S) (K := K) (M := M) (M' := M') (s := s) (r := rs) (n := nn) (tp := []) hs hW hM t2 t1 hK b4 b7 hA (by
      obtain ⟨q1, q2, q3, q4, q5, q6⟩ := hM.2.1
      unfold MTab
      rw [bb 3 (by decide), bb 4 (by decide), bb 5 (by decide), bb 6 (by decide), bb 7 (by decide), bb 8 (by decide), bb 9 (by decide), bb 10 (by decide), bb 11 (by decide), bb 12 (by decide)]
      exact ⟨q1, q2, q3, q4, q5, q6⟩) b9 (bb 45 (by decide)) (bb 46 (by decide)) (bb 49 (by decide)) ⟨by rw [b3]; rfl, fun i x hx => (nomatch hx)⟩ (fun i hi => by
      by_cases e : i = s
      · subst e
        rw [if_pos rfl]; exact b10
      · rw [if_neg e]
        have mri : MRs M i (t_sl (s_told S) i) := MRs.of hM.2.2.1 hi
        exact mri.ag (hW.2.2.1.2 i hi) (o1 i e).1 (o1 i e).2 (fun p hp' => o2 _ (by omega)) (fun p hp' => o3 _ (by omega)))
    refine ⟨nI rs.2.length, n_rules S s rs (M'.1 24, M'.1 25) [], cr C2 1 (va_up (C2.2.2 1) s (some p)), M', T2, cl, b1, ⟨WS_rules hs hW wr (Nat.zero_le _) (fun x hx => nomatch hx), ⟨rt0, rtab, ?_, by omega, fun p' hp' => ?_, mu, ?_, ?_⟩, rmr⟩, ?_⟩
    · show (M'.1 24, M'.1 25) = (C2.1 29, C2.1 30)
      rw [b2, c29]
    · rw [d5 p' (by omega)]; exact ab1 p' (by omega)
    · show RSl mu T2 (fun j => if j = s then rs else t_sl (s_told S) j) ((cr C2 1 (va_up (C2.2.2 1) s (some p))).2.2 1)
      rw [cr_22, up_s]
      exact (a6'.ex d4).put c2'
    · rw [cr_22, up_n _ _ (by decide), up_n _ _ (by decide)]
      exact d6.sm rfl rfl
    · exact ⟨by have := k5.1; omega, by omega, by omega⟩
end OPR
