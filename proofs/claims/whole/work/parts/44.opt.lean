/-! tried, decides, lost: the calls -/
section OA
variable {A A1 A2 A3 A4 : LH} {q qt qo qa p p' : Option Nat} {v v1 v2 v3 v4 v5 v6 v7 n x : Int32}
theorem tq_no {N : Nat} (h0 : isO A q 10 = true) (h1 : f_X10_rulesIn A q v1 = some none) : f_X10_tried N A q v1 = some (-1, A) := by
  unfold f_X10_tried b_X10_tried
  (repeat (first | with_reducible rfl | refine (bnd_eq (by first | with_reducible assumption)).trans ?_ | refine (if_pos (by first | with_reducible assumption | with_reducible rfl | decide | (dsimp only; first | with_reducible assumption | with_reducible rfl | decide))).trans ?_ | refine (if_neg (by first | with_reducible assumption | decide | (dsimp only; first | with_reducible assumption | decide))).trans ?_))
theorem tq_go {N : Nat} (h0 : isO A q 10 = true) (h1 : f_X10_rulesIn A q v1 = some p) (hp : ¬ p = none) (h2 : l_X10_tried_17 N N A q p 0 0 = some (x, A1)) : f_X10_tried N A q v1 = some (x, A1) := by
  unfold f_X10_tried b_X10_tried
  refine (if_pos h0).trans ((bnd_eq h1).trans ((if_neg hp).trans h2))
theorem tm_no {N : Nat} (h0 : isO A q 11 = true) (h1 : pF A q 11 0 (LI 0) = some A1) (h2 : f_X11_isSlot A1 q v1 = some 0) : f_X11_tried N A q v1 = some (-1, A1) := by
  unfold f_X11_tried b_X11_tried
  (repeat (first | with_reducible rfl | refine (bnd_eq (by first | with_reducible assumption)).trans ?_ | refine (if_pos (by first | with_reducible assumption | with_reducible rfl | decide | (dsimp only; first | with_reducible assumption | with_reducible rfl | decide))).trans ?_ | refine (if_neg (by first | with_reducible assumption | decide | (dsimp only; first | with_reducible assumption | decide))).trans ?_))
theorem tm_go {N : Nat} (h0 : isO A q 11 = true) (h1 : pF A q 11 0 (LI 0) = some A1) (h2 : f_X11_isSlot A1 q v1 = some 1) (h4 : pF A1 q 11 39 (LI 0) = some A2) (h5 : pF A2 q 11 40 (LI 0) = some A3) (h6 : l_X11_tried_29 N N A3 q v1 0 0 = some (x, A4)) : f_X11_tried N A q v1 = some (x, A4) := by
  unfold f_X11_tried b_X11_tried
  (repeat (first | with_reducible rfl | refine (bnd_eq (by first | with_reducible assumption)).trans ?_ | refine (if_pos (by first | with_reducible assumption | with_reducible rfl | decide | (dsimp only; first | with_reducible assumption | with_reducible rfl | decide))).trans ?_ | refine (if_neg (by first | with_reducible assumption | decide | (dsimp only; first | with_reducible assumption | decide))).trans ?_))
  exact h6
theorem dq_no {N : Nat} (h0 : isO A q 10 = true) (h1 : f_X10_rulesIn A q v1 = some none) : f_X10_decides N A q v1 v2 = some (-1, A) := by
  unfold f_X10_decides b_X10_decides
  (repeat (first | with_reducible rfl | refine (bnd_eq (by first | with_reducible assumption)).trans ?_ | refine (if_pos (by first | with_reducible assumption | with_reducible rfl | decide | (dsimp only; first | with_reducible assumption | with_reducible rfl | decide))).trans ?_ | refine (if_neg (by first | with_reducible assumption | decide | (dsimp only; first | with_reducible assumption | decide))).trans ?_))
theorem dq_nl {N : Nat} (h0 : isO A q 10 = true) (h1 : f_X10_rulesIn A q v1 = some p) (hp : ¬ p = none) (h2 : f_X3_lineAt A p v2 = some none) : f_X10_decides N A q v1 v2 = some (-1, A) := by
  unfold f_X10_decides b_X10_decides
  (repeat (first | with_reducible rfl | refine (bnd_eq (by first | with_reducible assumption)).trans ?_ | refine (if_pos (by first | with_reducible assumption | with_reducible rfl | decide | (dsimp only; first | with_reducible assumption | with_reducible rfl | decide))).trans ?_ | refine (if_neg (by first | with_reducible assumption | decide | (dsimp only; first | with_reducible assumption | decide))).trans ?_))
theorem dq_go {N : Nat} (h0 : isO A q 10 = true) (h1 : f_X10_rulesIn A q v1 = some p) (hp : ¬ p = none) (h2 : f_X3_lineAt A p v2 = some p') (hp' : ¬ p' = none) (h3 : l_X10_decides_26 N N A q v2 p 0 0 = some (x, A1)) : f_X10_decides N A q v1 v2 = some (x, A1) := by
  unfold f_X10_decides b_X10_decides
  (repeat (first | with_reducible rfl | refine (bnd_eq (by first | with_reducible assumption)).trans ?_ | refine (if_pos (by first | with_reducible assumption | with_reducible rfl | decide | (dsimp only; first | with_reducible assumption | with_reducible rfl | decide))).trans ?_ | refine (if_neg (by first | with_reducible assumption | decide | (dsimp only; first | with_reducible assumption | decide))).trans ?_))
  exact h3
theorem dm_no {N : Nat} (h0 : isO A q 11 = true) (h1 : pF A q 11 0 (LI 0) = some A1) (h2 : f_X11_isLine A1 q v1 v2 = some 0) : f_X11_decides N A q v1 v2 = some (-1, A1) := by
  unfold f_X11_decides b_X11_decides
  (repeat (first | with_reducible rfl | refine (bnd_eq (by first | with_reducible assumption)).trans ?_ | refine (if_pos (by first | with_reducible assumption | with_reducible rfl | decide | (dsimp only; first | with_reducible assumption | with_reducible rfl | decide))).trans ?_ | refine (if_neg (by first | with_reducible assumption | decide | (dsimp only; first | with_reducible assumption | decide))).trans ?_))
theorem dm_go {N : Nat} (h0 : isO A q 11 = true) (h1 : pF A q 11 0 (LI 0) = some A1) (h2 : f_X11_isLine A1 q v1 v2 = some 1) (h4 : pF A1 q 11 39 (LI 0) = some A2) (h5 : pF A2 q 11 40 (LI 0) = some A3) (h6 : l_X11_decides_31 N N A3 q v1 v2 0 0 = some (x, A4)) : f_X11_decides N A q v1 v2 = some (x, A4) := by
  unfold f_X11_decides b_X11_decides
  (repeat (first | with_reducible rfl | refine (bnd_eq (by first | with_reducible assumption)).trans ?_ | refine (if_pos (by first | with_reducible assumption | with_reducible rfl | decide | (dsimp only; first | with_reducible assumption | with_reducible rfl | decide))).trans ?_ | refine (if_neg (by first | with_reducible assumption | decide | (dsimp only; first | with_reducible assumption | decide))).trans ?_))
  exact h6
theorem lq_no1 {N : Nat} (h0 : isO A q 10 = true) (h1 : f_X10_rulesIn A q v1 = some none) (h2 : f_X10_rulesIn A q v2 = some p') : f_X10_lost N A q v1 v2 v3 = some (-1, A) := by
  unfold f_X10_lost b_X10_lost
  (repeat (first | with_reducible rfl | refine (bnd_eq (by first | with_reducible assumption)).trans ?_ | refine (if_pos (by first | with_reducible assumption | with_reducible rfl | decide | (dsimp only; first | with_reducible assumption | with_reducible rfl | decide))).trans ?_ | refine (if_neg (by first | with_reducible assumption | decide | (dsimp only; first | with_reducible assumption | decide))).trans ?_))
theorem lq_no2 {N : Nat} (h0 : isO A q 10 = true) (h1 : f_X10_rulesIn A q v1 = some p) (hp : ¬ p = none) (h2 : f_X10_rulesIn A q v2 = some none) : f_X10_lost N A q v1 v2 v3 = some (-1, A) := by
  unfold f_X10_lost b_X10_lost
  (repeat (first | with_reducible rfl | refine (bnd_eq (by first | with_reducible assumption)).trans ?_ | refine (if_pos (by first | with_reducible assumption | with_reducible rfl | decide | (dsimp only; first | with_reducible assumption | with_reducible rfl | decide))).trans ?_ | refine (if_neg (by first | with_reducible assumption | decide | (dsimp only; first | with_reducible assumption | decide))).trans ?_))
theorem lq_neg {N : Nat} (h0 : isO A q 10 = true) (h1 : f_X10_rulesIn A q v1 = some p) (hp : ¬ p = none) (h2 : f_X10_rulesIn A q v2 = some p') (hp' : ¬ p' = none) (h3 : ¬ 0 ≤ v3) : f_X10_lost N A q v1 v2 v3 = some (-1, A) := by
  unfold f_X10_lost b_X10_lost
  (repeat (first | with_reducible rfl | refine (bnd_eq (by first | with_reducible assumption)).trans ?_ | refine (if_pos (by first | with_reducible assumption | with_reducible rfl | decide | (dsimp only; first | with_reducible assumption | with_reducible rfl | decide))).trans ?_ | refine (if_neg (by first | with_reducible assumption | decide | (dsimp only; first | with_reducible assumption | decide))).trans ?_))
theorem lq_go {N : Nat} (h0 : isO A q 10 = true) (h1 : f_X10_rulesIn A q v1 = some p) (hp : ¬ p = none) (h2 : f_X10_rulesIn A q v2 = some p') (hp' : ¬ p' = none) (h3 : 0 ≤ v3) (h4 : l_X10_lost_36 N N A q v3 p p' 0 0 = some (x, A1)) : f_X10_lost N A q v1 v2 v3 = some (x, A1) := by
  unfold f_X10_lost b_X10_lost
  (repeat (first | with_reducible rfl | refine (bnd_eq (by first | with_reducible assumption)).trans ?_ | refine (if_pos (by first | with_reducible assumption | with_reducible rfl | decide | (dsimp only; first | with_reducible assumption | with_reducible rfl | decide))).trans ?_ | refine (if_neg (by first | with_reducible assumption | decide | (dsimp only; first | with_reducible assumption | decide))).trans ?_))
  exact h4
theorem lm_no1 {N : Nat} (h0 : isO A q 11 = true) (h1 : pF A q 11 0 (LI 0) = some A1) (h2 : f_X11_isSlot A1 q v1 = some 0) : f_X11_lost N A q v1 v2 v3 = some (-1, A1) := by
  unfold f_X11_lost b_X11_lost
  (repeat (first | with_reducible rfl | refine (bnd_eq (by first | with_reducible assumption)).trans ?_ | refine (if_pos (by first | with_reducible assumption | with_reducible rfl | decide | (dsimp only; first | with_reducible assumption | with_reducible rfl | decide))).trans ?_ | refine (if_neg (by first | with_reducible assumption | decide | (dsimp only; first | with_reducible assumption | decide))).trans ?_))
theorem lm_no2 {N : Nat} (h0 : isO A q 11 = true) (h1 : pF A q 11 0 (LI 0) = some A1) (h2 : f_X11_isSlot A1 q v1 = some 1) (h3 : f_X11_isSlot A1 q v2 = some 0) : f_X11_lost N A q v1 v2 v3 = some (-1, A1) := by
  unfold f_X11_lost b_X11_lost
  (repeat (first | with_reducible rfl | refine (bnd_eq (by first | with_reducible assumption)).trans ?_ | refine (if_pos (by first | with_reducible assumption | with_reducible rfl | decide | (dsimp only; first | with_reducible assumption | with_reducible rfl | decide))).trans ?_ | refine (if_neg (by first | with_reducible assumption | decide | (dsimp only; first | with_reducible assumption | decide))).trans ?_))
theorem lm_neg {N : Nat} (h0 : isO A q 11 = true) (h1 : pF A q 11 0 (LI 0) = some A1) (h2 : f_X11_isSlot A1 q v1 = some 1) (h3 : f_X11_isSlot A1 q v2 = some 1) (h6 : ¬ 0 ≤ v3) : f_X11_lost N A q v1 v2 v3 = some (-1, A1) := by
  unfold f_X11_lost b_X11_lost
  (repeat (first | with_reducible rfl | refine (bnd_eq (by first | with_reducible assumption)).trans ?_ | refine (if_pos (by first | with_reducible assumption | with_reducible rfl | decide | (dsimp only; first | with_reducible assumption | with_reducible rfl | decide))).trans ?_ | refine (if_neg (by first | with_reducible assumption | decide | (dsimp only; first | with_reducible assumption | decide))).trans ?_))
theorem lm_go {N : Nat} (h0 : isO A q 11 = true) (h1 : pF A q 11 0 (LI 0) = some A1) (h2 : f_X11_isSlot A1 q v1 = some 1) (h3 : f_X11_isSlot A1 q v2 = some 1) (h6 : 0 ≤ v3) (h4 : pF A1 q 11 39 (LI 0) = some A2) (h5 : pF A2 q 11 40 (LI 0) = some A3) (h7 : l_X11_lost_43 N N A3 q v1 v2 v3 0 = some (x, A4)) : f_X11_lost N A q v1 v2 v3 = some (x, A4) := by
  unfold f_X11_lost b_X11_lost
  (repeat (first | with_reducible rfl | refine (bnd_eq (by first | with_reducible assumption)).trans ?_ | refine (if_pos (by first | with_reducible assumption | with_reducible rfl | decide | (dsimp only; first | with_reducible assumption | with_reducible rfl | decide))).trans ?_ | refine (if_neg (by first | with_reducible assumption | decide | (dsimp only; first | with_reducible assumption | decide))).trans ?_))
  exact h7
end OA
section OPT
variable {X : XS} {C : CS} {M : MS} {T : TS} {S : SG} {K : Nat} {mu : List Nat}
theorem s_ne (q : Nat) : ¬ some q = none := fun z => nomatch z
theorem slz {k : Nat} (hk : k < 4) : f_X11_isSlot (hp X C (m0 M 0 0) T) (some 35) (nI k) = some 1 := isSl_t hk
theorem slf {x : Int32} (hx : x < 0 ∨ nI 4 ≤ x) : f_X11_isSlot (hp X C (m0 M 0 0) T) (some 35) x = some 0 := isSl_f hx
theorem op_tried (N : Nat) (hN : 1820 ≤ N) (h : INV S C M T K) (x : Int32) : ∃ r C' M', f_X10_tried N (hp X C M T) (some 8) x = some (r, hp X C' M T) ∧ f_X11_tried N (hp X C' M T) (some 35) x = some (r, hp X C' M' T) ∧ INV S C' M' T (K + 1) := by
  have hz := h.z
  have hI := h
  obtain ⟨hW, hC, hM⟩ := h
  obtain ⟨a1, a2, a3, a4, a5, mu, a6, a7⟩ := hC
  have wt := hW.2.2.1.1
  have hl := wt.2.2.1
  rcases i_cases x 4 (by decide) with ⟨k, hk, rfl⟩ | hx
  · obtain ⟨q, hq, hr⟩ := k_rin (X := X) (M := M) a6 hk
    have wr := hW.2.2.1.2 k hk
    have mr : MRs (mZ M) k (t_sl (s_told S) k) := MRs.of hM.2.2.1 hk
    obtain ⟨C', c1, c2⟩ := k_triedL (X := X) (M := M) N (by omega) a2 wt wr hr (t_bk (s_told S)).length N 0 0 C EqT.rf (by omega) (by omega)
    have mt : MTab (s_told S) 0 (mZ M).2.2 := hM.2.1
    obtain ⟨f, m1⟩ := m_triedL (X := X) (C := C') (T := T) (M := mZ M) N hN hk mt wt wr mr rfl rfl (t_bk (s_told S)).length N 0 0 ((mZ M).2.2 38) (by omega) (by omega)
    rw [mT_id, nI_0] at m1
    rw [nI_0] at c1
    exact ⟨_, C', mT (mZ M) f, tq_go io_8 hq (s_ne q) c1, tm_go io_35 (pi_35_0 0) (slz hk) (pi_35_39 0) (pi_35_40 0) m1, hI.eq c2 mZ_eq.mT⟩
  · exact ⟨-1, C, m0 M 0 0, tq_no io_8 (k_rin_f hx), tm_no io_35 (pi_35_0 0) (slf hx), hz⟩
theorem k_decidesL (N : Nat) (hN : 601 ≤ N) {t : TLD} {r : RSV} {q k : Nat} (hR : RTab t (C.1 9) (C.1 10) (C.1 11) (C.2.1 2) (C.2.1 3) (C.2.1 4)) (hW : WTld t) (wr : WRs r) (hr : isRl mu T q r) (hk : k < 12) : ∀ (d m c i : Nat) (C' : CS), EqT C C' → (t_bk t).length = i + d → d < m → ∃ C'', l_X10_decides_26 N m (hp X C' M T) (some 8) (nI k) (some q) (nI c) (nI i) = some (nI (c + cntP (akD t r k) (t_bk t) i), hp X C'' M T) ∧ EqT C C'' := by
  have hl := hW.2.2.1
  intro d
  induction d with
  | zero =>
    intro m c i C' hE h1 h2
    obtain ⟨m, rfl⟩ : ∃ k, m = k + 1 := ⟨m - 1, by omega⟩
    refine ⟨C', ?_, hE⟩
    rw [cntP_e (by omega), Nat.add_zero]
    exact dc_end N m gr_8_2 gr_18_2 (by rw [gi_23_3, (hE.tab hR).2.2.1]) (nI_le (by omega) (by omega))
  | succ d ih =>
    intro m c i C' hE h1 h2
    obtain ⟨m, rfl⟩ : ∃ k, m = k + 1 := ⟨m - 1, by omega⟩
    obtain ⟨x, hx⟩ := at_ex (t_bk t) (show i < _ by omega)
    have w := hW.2.2.2.2.2 i x hx
    obtain ⟨C1, c1, c2, c3, c4⟩ := k_ask (X := X) (M := M) N hN hE hR hW wr hr hx
    obtain ⟨f, v, e1⟩ := k_dec (X := X) (M := M) N hN w.2.2.2.1 c3 c4 wr hr
    have hb : akD t r k x = true ↔ oI (decR (evO t x.1 x.2.1 x.2.2.1) x.2.2.2.1 r) = nI k := by
      unfold akD
      rw [beq_iff_eq]
      cases hq : decR (evO t x.1 x.2.1 x.2.2.1) x.2.2.2.1 r with
      | none =>
        refine ⟨fun z => (nomatch z), fun z => ?_⟩
        exact absurd z.symm (oI_ne (k := k) (by omega))
      | some j =>
        have hj := decP_lt hq
        have := wr.2.1
        rw [Option.some.injEq]
        exact (nI_eq (by omega) (by omega)).symm
    have st := dc_st (v4 := nI c) N m (gr_8_2 (X := X) (C := C') (M := M) (T := T)) gr_18_2 (by rw [gi_23_3, (hE.tab hR).2.2.1]) (nI_ge (show i < _ by omega) (by omega)) gr_8_4 c1 gr_8_4 e1 (akD t r k x) hb
    obtain ⟨C'', g1, g2⟩ := ih m (c + cond (akD t r k x) 1 0) (i + 1) (kT C1 f v) c2.kT (by omega) (by omega)
    refine ⟨C'', ?_, g2⟩
    have : cond (akD t r k x) (nI c + 1) (nI c) = nI (c + cond (akD t r k x) 1 0) := by
      cases akD t r k x
      · rfl
      · exact nI_1 c
    rw [st, cntP_s hx, ← Nat.add_assoc, this, nI_1]
    exact g1
theorem m_decidesL (N : Nat) (hN : 1820 ≤ N) {t : TLD} {r : RSV} {s k : Nat} (hs : s < 4) (hT : MTab t 0 M.2.2) (hW : WTld t) (wr : WRs r) (hr : MRs M s r) (h39 : M.1 39 = 0) (h40 : M.1 40 = 0) (hk : k < 12) : ∀ (d m c i : Nat) (f : Nat → Int32), (t_bk t).length = i + d → d < m → ∃ f', l_X11_decides_31 N m (hp X C (mT M f) T) (some 35) (nI s) (nI k) (nI c) (nI i) = some (nI (c + cntP (akD t r k) (t_bk t) i), hp X C (mT M f') T) := by
  have hl := hW.2.2.1
  have a10 : ∀ f, aI (hp X C (mT M f) T) (some 44) 0 0 = some (nI (t_bk t).length) := fun f => by rw [az_44_0, mT_n (by decide), hT.2.2.1]
  intro d
  induction d with
  | zero =>
    intro m c i f h1 h2
    obtain ⟨m, rfl⟩ : ∃ k, m = k + 1 := ⟨m - 1, by omega⟩
    refine ⟨f, ?_⟩
    rw [cntP_e (by omega), Nat.add_zero]
    exact md_end N m gr_35_10 (a10 f) (nI_le (by omega) (by omega))
  | succ d ih =>
    intro m c i f h1 h2
    obtain ⟨m, rfl⟩ : ∃ k, m = k + 1 := ⟨m - 1, by omega⟩
    obtain ⟨x, hx⟩ := at_ex (t_bk t) (show i < _ by omega)
    have w := hW.2.2.2.2.2 i x hx
    have hi := at_lt hx
    have b := hT.2.2.2.2.2 i x hx
    simp only [Nat.mul_zero, Nat.zero_add] at b
    have me : MEv M (evO t x.1 x.2.1 x.2.2.1) := MEv.of hW hT w.1 w.2.2.1
    obtain ⟨f1, e1⟩ := m_dec0 (X := X) (C := C) (T := T) (M := mT M f) N hN hs w.2.2.2.1 me.mT (WEv.of hW w.1 w.2.1 w.2.2.1) wr hr.mT h39 h40
    rw [mT_mT] at e1
    have hb : akD t r k x = true ↔ oI (decR (evO t x.1 x.2.1 x.2.2.1) x.2.2.2.1 r) = nI k := by
      unfold akD
      rw [beq_iff_eq]
      cases hq : decR (evO t x.1 x.2.1 x.2.2.1) x.2.2.2.1 r with
      | none =>
        refine ⟨fun z => (nomatch z), fun z => ?_⟩
        exact absurd z.symm (oI_ne (k := k) (by omega))
      | some j =>
        have hj := decP_lt hq
        have := wr.2.1
        rw [Option.some.injEq]
        exact (nI_eq (by omega) (by omega)).symm
    have e0 : (4 : Int32) * nI i = nI (i * 4) := by rw [← nI_4, pk_mul, Nat.mul_comm]
    have b0 : aI (hp X C (mT M f) T) (some 45) 0 (4 * nI i) = some (nI x.1) := by rw [e0, ai_45 (by omega), mT_n (by decide), b.1]
    have b1 : aI (hp X C (mT M f) T) (some 45) 0 (4 * nI i + 1) = some (nI x.2.1) := by rw [e0, nI_1, ai_45 (by omega), mT_n (by decide), b.2.1]
    have b2 : aI (hp X C (mT M f) T) (some 45) 0 (4 * nI i + 2) = some (nI x.2.2.1) := by rw [e0, ← nI_2, nI_add, ai_45 (by omega), mT_n (by decide), b.2.2.1]
    have b3 : aI (hp X C (mT M f) T) (some 45) 0 (4 * nI i + 3) = some (nI x.2.2.2.1) := by rw [e0, ← nI_3, nI_add, ai_45 (by omega), mT_n (by decide), b.2.2.2.1]
    have st := md_st (v2 := nI k) (v3 := nI c) N m (gr_35_10 (X := X) (C := C) (M := mT M f) (T := T)) (a10 f) (nI_ge (show i < _ by omega) (by omega)) gr_35_11 b0 b1 b2 b3 e1 (akD t r k x) hb
    obtain ⟨f', g1⟩ := ih m (c + cond (akD t r k x) 1 0) (i + 1) f1 (by omega) (by omega)
    refine ⟨f', ?_⟩
    have : nI c + b01 (akD t r k x) = nI (c + cond (akD t r k x) 1 0) := by
      cases akD t r k x
      · exact Int32.add_zero _
      · exact nI_1 c
    rw [st, cntP_s hx, ← Nat.add_assoc, this, nI_1]
    exact g1
theorem op_decides (N : Nat) (hN : 1820 ≤ N) (h : INV S C M T K) (x y : Int32) : ∃ r C' M', f_X10_decides N (hp X C M T) (some 8) x y = some (r, hp X C' M T) ∧ f_X11_decides N (hp X C' M T) (some 35) x y = some (r, hp X C' M' T) ∧ INV S C' M' T (K + 1) := by
  have hz := h.z
  have hI := h
  obtain ⟨hW, hC, hM⟩ := h
  obtain ⟨a1, a2, a3, a4, a5, mu, a6, a7⟩ := hC
  have wt := hW.2.2.1.1
  have hl := wt.2.2.1
  rcases i_cases x 4 (by decide) with ⟨k, hk, rfl⟩ | hx
  · obtain ⟨q, hq, hr⟩ := k_rin (X := X) (M := M) a6 hk
    have wr := hW.2.2.1.2 k hk
    have w12 := wr.2.1
    have mr : MRs (mZ M) k (t_sl (s_told S) k) := MRs.of hM.2.2.1 hk
    have m14 : (m0 M 0 0).2.2 14 k = nI (t_sl (s_told S) k).2.length := mr.2.1
    rcases i_cases y (t_sl (s_told S) k).2.length (by omega) with ⟨j, hj, rfl⟩ | hy
    · obtain ⟨l, hl'⟩ := at_ex _ hj
      obtain ⟨p, p1, p2⟩ := rl_at (X := X) (C := C) (M := M) hr hl' (by omega)
      obtain ⟨C', c1, c2⟩ := k_decidesL (X := X) (M := M) (k := j) N (by omega) a2 wt wr hr (by omega) (t_bk (s_told S)).length N 0 0 C EqT.rf (by omega) (by omega)
      have mt : MTab (s_told S) 0 (mZ M).2.2 := hM.2.1
      obtain ⟨f, m1⟩ := m_decidesL (X := X) (C := C') (T := T) (M := mZ M) (k := j) N hN hk mt wt wr mr rfl rfl (by omega) (t_bk (s_told S)).length N 0 0 ((mZ M).2.2 38) (by omega) (by omega)
      rw [mT_id, nI_0] at m1
      rw [nI_0] at c1
      exact ⟨_, C', mT (mZ M) f, dq_go io_8 hq (s_ne q) p1 (s_ne p) c1, dm_go io_35 (pi_35_0 0) (isLi_t (M := m0 M 0 0) hk m14 hj (by omega)) (pi_35_39 0) (pi_35_40 0) m1, hI.eq c2 mZ_eq.mT⟩
    · exact ⟨-1, C, m0 M 0 0, dq_nl io_8 hq (s_ne q) (rl_at_f hr hy), dm_no io_35 (pi_35_0 0) (isLi_f (M := m0 M 0 0) hk m14 hy (by omega)), hz⟩
  · exact ⟨-1, C, m0 M 0 0, dq_no io_8 (k_rin_f hx), dm_no io_35 (pi_35_0 0) (isLi_f2 (M := m0 M 0 0) hx), hz⟩
theorem lostR_f {P : AK → Bool} {x : AK} {l : List AK} {i j : Nat} (h : P x = false) : lostR P (x :: l) i j = lostR P l (i + 1) j := by
  show (if P x = true then _ else _) = _
  rw [h]; rfl
theorem lostR_t {P : AK → Bool} {x : AK} {l : List AK} {i j : Nat} (h : P x = true) : lostR P (x :: l) i j = if j = 0 then nI i else lostR P l (i + 1) (j - 1) := by
  show (if P x = true then _ else _) = _
  rw [h]; rfl
def akX (t : TLD) (r r' : RSV) (x : AK) : Bool := akL t r x && !(akL t r' x)
theorem k_lostL (N : Nat) (hN : 601 ≤ N) {t : TLD} {r r' : RSV} {q q' kk : Nat} (hR : RTab t (C.1 9) (C.1 10) (C.1 11) (C.2.1 2) (C.2.1 3) (C.2.1 4)) (hW : WTld t) (wr : WRs r) (hr : isRl mu T q r) (wr' : WRs r') (hr' : isRl mu T q' r') (hkk : kk < 2 ^ 31) : ∀ (d m a i : Nat) (C' : CS), EqT C C' → a ≤ kk → (t_bk t).length = i + d → d < m → ∃ C'', l_X10_lost_36 N m (hp X C' M T) (some 8) (nI kk) (some q) (some q') (nI a) (nI i) = some (lostR (akX t r r') ((t_bk t).drop i) i (kk - a), hp X C'' M T) ∧ EqT C C'' := by
  have hl := hW.2.2.1
  intro d
  induction d with
  | zero =>
    intro m a i C' hE ha h1 h2
    obtain ⟨m, rfl⟩ : ∃ k, m = k + 1 := ⟨m - 1, by omega⟩
    refine ⟨C', ?_, hE⟩
    rw [List.drop_eq_nil_of_le (by omega)]
    exact lo_end N m gr_8_2 gr_18_2 (by rw [gi_23_3, (hE.tab hR).2.2.1]) (nI_le (by omega) (by omega))
  | succ d ih =>
    intro m a i C' hE ha h1 h2
    obtain ⟨m, rfl⟩ : ∃ k, m = k + 1 := ⟨m - 1, by omega⟩
    obtain ⟨x, hx⟩ := at_ex (t_bk t) (show i < _ by omega)
    have w := hW.2.2.2.2.2 i x hx
    obtain ⟨C1, c1, c2, c3, c4⟩ := k_ask (X := X) (M := M) N hN hE hR hW wr hr hx
    obtain ⟨f, v, e1⟩ := k_let (X := X) (M := M) N hN w.2.2.2.1 c3 c4 wr hr
    obtain ⟨f', v', e2⟩ := k_let (X := X) (M := M) (C := kT C1 f v) N hN w.2.2.2.1 (c3.kT (f := f) (v := v)) c4 wr' hr'
    rw [kT_kT] at e2
    have e1' : f_X9_lets N (hp X C1 M T) (some 30) (some q) = some (b01 (akL t r x), hp X (kT C1 f v) M T) := e1
    have e2' : f_X9_lets N (hp X (kT C1 f v) M T) (some 30) (some q') = some (b01 (akL t r' x), hp X (kT C1 f' v') M T) := e2
    have g20 : gI (hp X C' M T) (some 23) 5 3 = some (nI (t_bk t).length) := by rw [gi_23_3, (hE.tab hR).2.2.1]
    have hlt : ¬ nI (t_bk t).length ≤ nI i := nI_ge (show i < _ by omega) (by omega)
    have ds : (t_bk t).drop i = x :: (t_bk t).drop (i + 1) := drop_s hx
    rw [ds]
    cases z1 : akL t r x with
    | false =>
      rw [z1] at e1'
      obtain ⟨C'', g1, g2⟩ := ih m a (i + 1) (kT C1 f v) c2.kT ha (by omega) (by omega)
      refine ⟨C'', ?_, g2⟩
      rw [lo_0 N m gr_8_2 gr_18_2 g20 hlt gr_8_4 c1 gr_8_4 e1', nI_1, lostR_f (by unfold akX; rw [z1]; rfl)]
      exact g1
    | true =>
      rw [z1] at e1'
      cases z2 : akL t r' x with
      | true =>
        rw [z2] at e2'
        obtain ⟨C'', g1, g2⟩ := ih m a (i + 1) (kT C1 f' v') c2.kT ha (by omega) (by omega)
        refine ⟨C'', ?_, g2⟩
        rw [lo_1 N m gr_8_2 gr_18_2 g20 hlt gr_8_4 c1 gr_8_4 e1' gr_8_4 e2', nI_1, lostR_f (by unfold akX; rw [z1, z2]; rfl)]
        exact g1
      | false =>
        rw [z2] at e2'
        by_cases hak : a = kk
        · refine ⟨kT C1 f' v', ?_, c2.kT⟩
          subst hak
          rw [lo_hit N m gr_8_2 gr_18_2 g20 hlt gr_8_4 c1 gr_8_4 e1' gr_8_4 e2' rfl, lostR_t (by unfold akX; rw [z1, z2]; rfl), if_pos (by omega)]
        · obtain ⟨C'', g1, g2⟩ := ih m (a + 1) (i + 1) (kT C1 f' v') c2.kT (by omega) (by omega) (by omega)
          refine ⟨C'', ?_, g2⟩
          rw [lo_go N m gr_8_2 gr_18_2 g20 hlt gr_8_4 c1 gr_8_4 e1' gr_8_4 e2' (ne_nI hak (by omega) hkk), nI_1, nI_1, g1, lostR_t (by unfold akX; rw [z1, z2]; rfl), if_neg (by omega), show kk - (a + 1) = kk - a - 1 by omega]
theorem m_lostL (N : Nat) (hN : 1820 ≤ N) {t : TLD} {r r' : RSV} {s s' : Nat} (hs : s < 4) (hs' : s' < 4) (hT : MTab t 0 M.2.2) (hW : WTld t) (wr : WRs r) (hr : MRs M s r) (wr' : WRs r') (hr' : MRs M s' r') (h39 : M.1 39 = 0) (h40 : M.1 40 = 0) : ∀ (d m j i : Nat) (f : Nat → Int32), j < 2 ^ 31 → (t_bk t).length = i + d → d < m → ∃ f', l_X11_lost_43 N m (hp X C (mT M f) T) (some 35) (nI s) (nI s') (nI j) (nI i) = some (lostR (akX t r r') ((t_bk t).drop i) i j, hp X C (mT M f') T) := by
  have hl := hW.2.2.1
  have a10 : ∀ f, aI (hp X C (mT M f) T) (some 44) 0 0 = some (nI (t_bk t).length) := fun f => by rw [az_44_0, mT_n (by decide), hT.2.2.1]
  have hT' : ∀ f, MTab t 0 (mT M f).2.2 := fun f => hT.agr hW (fun a i hi => by
    by_cases e : a = 38
    · subst e; exact absurd hi (Nat.not_lt_zero _)
    · rw [mT_n e])
  intro d
  induction d with
  | zero =>
    intro m j i f hj h1 h2
    obtain ⟨m, rfl⟩ : ∃ k, m = k + 1 := ⟨m - 1, by omega⟩
    refine ⟨f, ?_⟩
    rw [List.drop_eq_nil_of_le (by omega)]
    exact ml_end N m gr_35_10 (a10 f) (nI_le (by omega) (by omega))
  | succ d ih =>
    intro m j i f hj h1 h2
    obtain ⟨m, rfl⟩ : ∃ k, m = k + 1 := ⟨m - 1, by omega⟩
    obtain ⟨x, hx⟩ := at_ex (t_bk t) (show i < _ by omega)
    obtain ⟨f1, e1⟩ := m_askLet (X := X) (C := C) (T := T) (M := mT M f) N hN hs (hT' f) hW wr hr.mT h39 h40 hx
    rw [mT_mT] at e1
    obtain ⟨f2, e2⟩ := m_askLet (X := X) (C := C) (T := T) (M := mT M f1) N hN hs' (hT' f1) hW wr' hr'.mT h39 h40 hx
    rw [mT_mT] at e2
    have hlt : ¬ nI (t_bk t).length ≤ nI i := nI_ge (show i < _ by omega) (by omega)
    have ds : (t_bk t).drop i = x :: (t_bk t).drop (i + 1) := drop_s hx
    rw [ds]
    cases z1 : akL t r x with
    | false =>
      rw [z1] at e1
      obtain ⟨f', g1⟩ := ih m j (i + 1) f1 hj (by omega) (by omega)
      refine ⟨f', ?_⟩
      rw [ml_0 N m gr_35_10 (a10 f) hlt e1, nI_1, lostR_f (by unfold akX; rw [z1]; rfl)]
      exact g1
    | true =>
      rw [z1] at e1
      cases z2 : akL t r' x with
      | true =>
        rw [z2] at e2
        obtain ⟨f', g1⟩ := ih m j (i + 1) f2 hj (by omega) (by omega)
        refine ⟨f', ?_⟩
        rw [ml_1 N m gr_35_10 (a10 f) hlt e1 e2, nI_1, lostR_f (by unfold akX; rw [z1, z2]; rfl)]
        exact g1
      | false =>
        rw [z2] at e2
        by_cases hj0 : j = 0
        · refine ⟨f2, ?_⟩
          subst hj0
          rw [ml_hit N m gr_35_10 (a10 f) hlt e1 e2 nI_0, lostR_t (by unfold akX; rw [z1, z2]; rfl), if_pos rfl]
        · obtain ⟨f', g1⟩ := ih m (j - 1) (i + 1) f2 (by omega) (by omega) (by omega)
          refine ⟨f', ?_⟩
          have e3 : nI j + (-1) = nI (j - 1) := by
            obtain ⟨k, rfl⟩ : ∃ k, j = k + 1 := ⟨j - 1, by omega⟩
            exact pk_m1 k
          rw [ml_go N m gr_35_10 (a10 f) hlt e1 e2 (nI_ne0 (by omega) hj), nI_1, e3, g1, lostR_t (by unfold akX; rw [z1, z2]; rfl), if_neg hj0]
theorem op_lost (N : Nat) (hN : 1820 ≤ N) (h : INV S C M T K) (x y z : Int32) : ∃ r C' M', f_X10_lost N (hp X C M T) (some 8) x y z = some (r, hp X C' M T) ∧ f_X11_lost N (hp X C' M T) (some 35) x y z = some (r, hp X C' M' T) ∧ INV S C' M' T (K + 1) := by
  have hz := h.z
  have hI := h
  obtain ⟨hW, hC, hM⟩ := h
  obtain ⟨a1, a2, a3, a4, a5, mu, a6, a7⟩ := hC
  have wt := hW.2.2.1.1
  have hl := wt.2.2.1
  rcases i_cases x 4 (by decide) with ⟨k, hk, rfl⟩ | hx
  · obtain ⟨q, hq, hr⟩ := k_rin (X := X) (M := M) a6 hk
    rcases i_cases y 4 (by decide) with ⟨k', hk', rfl⟩ | hy
    · obtain ⟨q', hq', hr'⟩ := k_rin (X := X) (M := M) a6 hk'
      by_cases h0 : z < 0
      · have h0' : ¬ 0 ≤ z := Int32.not_le.mpr h0
        exact ⟨-1, C, m0 M 0 0, lq_neg io_8 hq (s_ne q) hq' (s_ne q') h0', lm_neg io_35 (pi_35_0 0) (slz hk) (slz hk') h0', hz⟩
      · obtain ⟨kk, hkk, rfl⟩ := nI_of h0
        have wr := hW.2.2.1.2 k hk
        have wr' := hW.2.2.1.2 k' hk'
        have mr : MRs (mZ M) k (t_sl (s_told S) k) := MRs.of hM.2.2.1 hk
        have mr' : MRs (mZ M) k' (t_sl (s_told S) k') := MRs.of hM.2.2.1 hk'
        have mt : MTab (s_told S) 0 (mZ M).2.2 := hM.2.1
        obtain ⟨C', c1, c2⟩ := k_lostL (X := X) (M := M) N (by omega) a2 wt wr hr wr' hr' hkk (t_bk (s_told S)).length N 0 0 C EqT.rf (by omega) (by omega) (by omega)
        obtain ⟨f, m1⟩ := m_lostL (X := X) (C := C') (T := T) (M := mZ M) N hN hk hk' mt wt wr mr wr' mr' rfl rfl (t_bk (s_told S)).length N kk 0 ((mZ M).2.2 38) hkk (by omega) (by omega)
        rw [mT_id, nI_0] at m1
        rw [nI_0] at c1
        exact ⟨_, C', mT (mZ M) f, lq_go io_8 hq (s_ne q) hq' (s_ne q') (Int32.not_lt.mp h0) c1, lm_go io_35 (pi_35_0 0) (slz hk) (slz hk') (Int32.not_lt.mp h0) (pi_35_39 0) (pi_35_40 0) m1, hI.eq c2 mZ_eq.mT⟩
    · exact ⟨-1, C, m0 M 0 0, lq_no2 io_8 hq (s_ne q) (k_rin_f hy), lm_no2 io_35 (pi_35_0 0) (slz hk) (slf hy), hz⟩
  · have : ∃ p', f_X10_rulesIn (hp X C M T) (some 8) y = some p' := by
      rcases i_cases y 4 (by decide) with ⟨k', hk', rfl⟩ | hy
      · obtain ⟨q', hq', hr'⟩ := k_rin (X := X) (M := M) a6 hk'
        exact ⟨_, hq'⟩
      · exact ⟨_, k_rin_f hy⟩
    obtain ⟨p', hp'⟩ := this
    exact ⟨-1, C, m0 M 0 0, lq_no1 io_8 (k_rin_f hx) hp', lm_no1 io_35 (pi_35_0 0) (slf hx), hz⟩
end OPT
