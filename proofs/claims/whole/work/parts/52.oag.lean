/-! again -/
section OAG
variable {X : XS} {C : CS} {M : MS} {T : TS} {S : SG} {K : Nat} {mu : List Nat}
/-- what is told is as an image has it; no MEND -/
def n_again (S : SG) (t : TLD) : SG := (s_tape S, t, s_img S, s_flt S, none)
theorem MS_again {k : Nat} {t : TLD} (hk : k < 3) (hi : s_img S k = some t) (hW : WS S) (hM : RM S K M) : RM (n_again S t) (K + 1) (m0 ((m0 M 0 0).1, (m0 M 0 0).2.1, cpB (m0 M 0 0).2.2 (k + 1) 0) 41 0) := by
  obtain ⟨m1, m2, m3, m4, m5, m6, m7⟩ := hM
  obtain ⟨w1, w2, w3, w5, w6⟩ := hW
  have b : (m0 ((m0 M 0 0).1, (m0 M 0 0).2.1, cpB (m0 M 0 0).2.2 (k + 1) 0) 41 0).2.2 = cpB M.2.2 (k + 1) 0 := rfl
  have n1 : ∀ a, szA a = 0 → (m0 ((m0 M 0 0).1, (m0 M 0 0).2.1, cpB (m0 M 0 0).2.2 (k + 1) 0) 41 0).2.2 a = M.2.2 a := fun a h1 => by rw [b, cpB_no h1]
  have agr : ∀ j, 0 < j → Agr j M.2.2 (m0 ((m0 M 0 0).1, (m0 M 0 0).2.1, cpB (m0 M 0 0).2.2 (k + 1) 0) 41 0).2.2 := fun j hj => by rw [b]; exact cpB_agr (by omega)
  have h0 := m7 k hk
  rw [hi] at h0
  have hwt := w5 k t hk hi
  refine ⟨?_, ?_, ?_, m4, ?_, ?_, ?_⟩
  · rw [n1 1 (by decide)]; exact m1
  · rw [b]; exact h0.2.1.cp hwt.1
  · rw [b]; exact h0.2.2.cp hwt.2
  · show (m0 _ 41 0).1 41 = 0
    rw [m0_1, up_s]
  · obtain ⟨n, t1, t2, t3, t4⟩ := m6
    refine ⟨n, by omega, t2, fun i hi => ?_, fun z => absurd rfl z⟩
    rw [n1 37 (by decide)]; exact t3 i hi
  · exact MIm.agr (S := S) (S' := n_again S t) m7 w5 rfl (n1 49 (by decide)) agr
theorem op_again (N : Nat) (hN : 4000 ≤ N) (h : INV S C M T K) (x : Int32) : ∃ r S' C' M' T', f_X10_again N (hp X C M T) (some 8) x = some (r, hp X C' M T') ∧ f_X11_again N (hp X C' M T') (some 35) x = some (r, hp X C' M' T') ∧ INV S' C' M' T' (K + 1) ∧ Bd T T' := by
  have hz := h.z
  obtain ⟨hW, hC, hM⟩ := h
  obtain ⟨a1, a2, a3, a4, a5, mu, a6, a7⟩ := hC
  rcases i_cases x 3 (by decide) with ⟨k, hk, rfl⟩ | hx
  · have e1 := isIn_n hk (show 3 < 2 ^ 31 by decide)
    rw [nI_3] at e1
    have e2 := in_ns (k := k) (n := 2) (by omega) (by decide)
    rw [nI_0, nI_2] at e2
    have hmk := hM.2.2.2.2.2.2 k hk
    cases hi : s_img S k with
    | none =>
      have hr : C.2.2 2 k = none := by
        obtain ⟨o0, o1, o2, om, f1, f2, f3, f4, f5⟩ := a7
        rcases (show k = 0 ∨ k = 1 ∨ k = 2 by omega) with rfl | rfl | rfl
        · have := f4 0 o0 rfl; rw [hi] at this; exact this.1
        · have := f4 1 o1 rfl; rw [hi] at this; exact this.1
        · have := f4 2 o2 rfl; rw [hi] at this; exact this.1
      rw [hi] at hmk
      exact ⟨0, S, C, _, T, ag_n N io_8 e1 gr_8_3 ((ar_29 hk).trans (congrArg some hr)), ma_no N io_35 (pi_35_0 0) e2 gr_35_49 ((ai_61 hk).trans (congrArg some hmk)), hz, Bd.rf T⟩
    | some t =>
      rw [hi] at hmk
      have hms := MS_again hk hi hW hM
      have hwt := hW.2.2.2.1 k t hk hi
      obtain ⟨q, own, b1, b2, b3, b4, b5, b6⟩ := a7.old hk hi
      obtain ⟨qp, cp, qt, ct, qa, cb, qs, fp, ft, fa, fs, rfl, d1, d2, d3⟩ := b2.op b4
      obtain ⟨fs', g1, g2⟩ := k_fromImg (X := X) (M := M) (C := C) (t := t) N (by omega) d1 b4 hwt.1 a2.1 a2.2.1 a2.2.2.1 (fun i hi => by
        obtain ⟨v, v1, v2, v3⟩ := d3.c3 (X := X) (M := M) hi
        exact ⟨v, v1, v2, fun C' => v3 C' T (fun p _ _ => rfl)⟩)
      obtain ⟨C3, hC3⟩ : ∃ C3, C3 = cr (c0 (ca (c0 (ca (c0 (ca C 2 (va_cpy fp (C.2.1 2) 0 0 ((t_ppl t).length * 2))) 9 (nI (t_ppl t).length)) 3 (va_cpy ft (C.2.1 3) 0 0 ((t_thg t).length * 3))) 10 (nI (t_thg t).length)) 4 (va_cpy fa (C.2.1 4) 0 0 ((t_bk t).length * 5))) 11 (nI (t_bk t).length)) 1 fs' := ⟨_, rfl⟩
      rw [← hC3] at g1
      have k1 : C3.1 0 = C.1 0 ∧ C3.1 29 = C.1 29 ∧ C3.1 30 = C.1 30 ∧ C3.1 9 = nI (t_ppl t).length ∧ C3.1 10 = nI (t_thg t).length ∧ C3.1 11 = nI (t_bk t).length := by subst hC3; exact ⟨rfl, rfl, rfl, rfl, rfl, rfl⟩
      have k2 : C3.2.1 0 = C.2.1 0 ∧ C3.2.1 2 = va_cpy fp (C.2.1 2) 0 0 ((t_ppl t).length * 2) ∧ C3.2.1 3 = va_cpy ft (C.2.1 3) 0 0 ((t_thg t).length * 3) ∧ C3.2.1 4 = va_cpy fa (C.2.1 4) 0 0 ((t_bk t).length * 5) := by subst hC3; exact ⟨rfl, rfl, rfl, rfl⟩
      have k3 : C3.2.2 1 = fs' ∧ C3.2.2 2 = C.2.2 2 := by subst hC3; exact ⟨by rw [cr_22, up_s], by rw [cr_22, up_n _ _ (by decide)]; rfl⟩
      have p6 := pr_8_6 (X := X) (C := C3) (M := M) (T := T) none
      have e3 := m_copy (X := X) (C := cr C3 3 (up (C3.2.2 3) 0 none)) (T := T) (M := m0 M 0 0) N hN (fr := k + 1) (to := 0) (by omega) (by omega) (by omega)
      rw [nI_0, ← nI_1] at e3
      have e4 : pZ (hp X (cr C3 3 (up (C3.2.2 3) 0 none)) ((m0 M 0 0).1, (m0 M 0 0).2.1, cpB (m0 M 0 0).2.2 (k + 1) 0) T) (some 35) 11 41 0 = some (hp X (cr C3 3 (up (C3.2.2 3) 0 none)) (m0 ((m0 M 0 0).1, (m0 M 0 0).2.1, cpB (m0 M 0 0).2.2 (k + 1) 0) 41 0) T) := by
        rw [pz_35_41, if_pos (Or.inl rfl)]
      have e5 : aI (hp X (cr C3 3 (up (C3.2.2 3) 0 none)) (m0 M 0 0) T) (some 61) 2 (nI k) = some 1 := (ai_61 hk).trans (congrArg some hmk.1)
      refine ⟨1, n_again S t, cr C3 3 (up (C3.2.2 3) 0 none), _, T, ag_t N io_8 e1 gr_8_3 ((ar_29 hk).trans (congrArg some b1)) gr_8_2 g1 p6, ma_t N io_35 (pi_35_0 0) e2 gr_35_49 e5 e3 e4, ⟨?_, ?_, hms⟩, Bd.rf T⟩
      · obtain ⟨w1, w2, w3, w5, w6⟩ := hW
        exact ⟨w1, w2, hwt, w5, fun m hm => by cases hm⟩
      · obtain ⟨o0, o1, o2, om, f1, f2, f3, f4, f5⟩ := a7
        have hsub : ∀ p, p ∈ o0 ++ (o1 ++ (o2 ++ [])) → p ∈ mu := fun p hp => by
          rw [f1]
          simp only [List.mem_append, List.not_mem_nil, or_false] at hp ⊢
          rcases hp with hp | hp | hp <;> simp [hp]
        have ex : Ex mu T (o0 ++ (o1 ++ (o2 ++ []))) T := fun p hp => ⟨⟨fun z => hp.1 (hsub p z), hp.2⟩, rfl⟩
        have r1 : (cr C3 3 (up (C3.2.2 3) 0 none)).2.2 1 = fs' := by rw [cr_22, up_n _ _ (by decide)]; exact k3.1
        have r2 : (cr C3 3 (up (C3.2.2 3) 0 none)).2.2 2 = C.2.2 2 := by rw [cr_22, up_n _ _ (by decide)]; exact k3.2
        have r3 : (cr C3 3 (up (C3.2.2 3) 0 none)).2.2 3 0 = none := by rw [cr_22, up_s, up_s]
        refine ⟨?_, ?_, ?_, a4, a5, o0 ++ (o1 ++ (o2 ++ [])), ?_, ?_⟩
        · show RTape (s_tape S) (C3.1 0) (C3.2.1 0)
          rw [k1.1, k2.1]; exact a1
        · show RTab t (C3.1 9) (C3.1 10) (C3.1 11) (C3.2.1 2) (C3.2.1 3) (C3.2.1 4)
          rw [k1.2.2.2.1, k1.2.2.2.2.1, k1.2.2.2.2.2, k2.2.1, k2.2.2.1, k2.2.2.2]
          exact d2.cp
        · show s_flt S = (C3.1 29, C3.1 30)
          rw [k1.2.1, k1.2.2.1]; exact a3
        · rw [r1]
          intro i hi
          rw [g2 i hi]
          exact (d3.ex ex) i hi
        · rw [r2, r3]
          have hnd : (o0 ++ (o1 ++ (o2 ++ []))).Nodup := by
            rw [f1] at f2
            refine List.Pairwise.sublist ?_ f2
            exact List.Sublist.append (List.Sublist.refl _) (List.Sublist.append (List.Sublist.refl _) (List.Sublist.append (List.Sublist.refl _) (List.nil_sublist _)))
          refine ⟨o0, o1, o2, [], rfl, hnd, fun p hp => f3 p (hsub p hp), fun j o hj => ?_, rfl, rfl⟩
          have h3 := f4 j o hj
          show match s_img S j with
            | none => C.2.2 2 j = none ∧ o = []
            | some t => ∃ q, C.2.2 2 j = some q ∧ isTo (o0 ++ (o1 ++ (o2 ++ []))) T q t o
          cases hs : s_img S j with
          | none => rw [hs] at h3; exact h3
          | some t' =>
            rw [hs] at h3
            obtain ⟨q', h4, h5⟩ := h3
            exact ⟨q', h4, h5.ex ex (fun p hp => rfl)⟩
  · have e1 := isIn_f hx
    rw [nI_3] at e1
    have e2 := in_f (lt_of_nle (n := 2) (by decide) hx)
    rw [nI_2] at e2
    exact ⟨0, S, C, _, T, ag_f N io_8 e1, ma_f N io_35 (pi_35_0 0) e2, hz, Bd.rf T⟩
end OAG
