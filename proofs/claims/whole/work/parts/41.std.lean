/-! where the Trial stands; what stays of C and M over a question -/
section STD
variable {X : XS} {C : CS} {M : MS} {T : TS} {S : SG} {K : Nat} {mu : List Nat}
/-- the case of an ASK -/
def evO (t : TLD) (p a o : Nat) : EV := (p, a, o, ((t_ppl t)[p]?.getD (0, 0)).1, ((t_ppl t)[p]?.getD (0, 0)).2, ((t_thg t)[o]?.getD (0, 0, 0)).1, ((t_thg t)[o]?.getD (0, 0, 0)).2.1, ((t_thg t)[o]?.getD (0, 0, 0)).2.2 == p)
theorem WEv.of {t : TLD} (h : WTld t) {p a o : Nat} (hp : p < (t_ppl t).length) (ha : a < 4) (ho : o < (t_thg t).length) : WEv (evO t p a o) := by
  obtain ⟨h1, h2, h3, h4, h5, h6⟩ := h
  obtain ⟨x, hx⟩ := at_ex _ hp
  obtain ⟨y, hy⟩ := at_ex _ ho
  have q1 := h4 p x hx
  have q2 := h5 o y hy
  unfold evO
  rw [hx, hy]
  exact ⟨show p < 16 by omega, ha, show o < 16 by omega, q1.1, q1.2, q2.1, q2.2.1⟩
theorem MEv.of {t : TLD} (hw : WTld t) (h : MTab t 0 M.2.2) {p a o : Nat} (hp : p < (t_ppl t).length) (ho : o < (t_thg t).length) : MEv M (evO t p a o) := by
  obtain ⟨h1, h2, h3, h4, h5, h6⟩ := h
  obtain ⟨x, hx⟩ := at_ex _ hp
  obtain ⟨y, hy⟩ := at_ex _ ho
  have q1 := h4 p x hx
  have q2 := h5 o y hy
  simp only [Nat.mul_zero, Nat.zero_add] at q1 q2
  have q3 := (hw.2.2.2.2.1 o y hy).2.2
  have q4 := hw.1
  unfold evO
  rw [hx, hy]
  exact ⟨q1.1, q1.2, q2.1, q2.2.1, y.2.2, by omega, q2.2.2, rfl⟩
/-- only the Trial's cells differ -/
def EqT (C C' : CS) : Prop := (∀ k, k < 12 ∨ 22 < k → C'.1 k = C.1 k) ∧ (∀ a, a ≠ 5 → C'.2.1 a = C.2.1 a) ∧ C'.2.2 = C.2.2
theorem EqT.rf : EqT C C := ⟨fun _ _ => rfl, fun _ _ => rfl, rfl⟩
theorem EqT.tr {C' C'' : CS} (h : EqT C C') (h2 : EqT C' C'') : EqT C C'' := ⟨fun k hk => (h2.1 k hk).trans (h.1 k hk), fun a ha => (h2.2.1 a ha).trans (h.2.1 a ha), h2.2.2.trans h.2.2⟩
theorem EqT.kT {C' : CS} {f : Nat → Int32} {v : Int32} (h : EqT C C') : EqT C (kT C' f v) := h.tr ⟨fun k hk => kT_1 (by omega), fun a ha => kT_a ha, rfl⟩
theorem EqT.c0 {C' : CS} {k : Nat} {v : Int32} (h : EqT C C') (hk : 12 ≤ k ∧ k ≤ 22) : EqT C (c0 C' k v) := h.tr ⟨fun j hj => by rw [c0_1, up_n _ _ (by omega)], fun a ha => rfl, rfl⟩
theorem EqT.rc {C' : CS} (h : EqT C C') (hc : RC S C T) : RC S C' T := by
  obtain ⟨h1, h2, h3⟩ := h
  obtain ⟨a1, a2, a3, a4, a5, mu, a6, a7⟩ := hc
  refine ⟨?_, ?_, ?_, a4, a5, mu, ?_, ?_⟩
  · rw [h1 0 (by omega), h2 0 (by omega)]; exact a1
  · rw [h1 9 (by omega), h1 10 (by omega), h1 11 (by omega), h2 2 (by omega), h2 3 (by omega), h2 4 (by omega)]; exact a2
  · rw [h1 29 (by omega), h1 30 (by omega)]; exact a3
  · rw [h3]; exact a6
  · rw [h3]; exact a7
/-- only code, out, turned and the pile differ -/
def EqM (M M' : MS) : Prop := (∀ k, k ≠ 0 → k ≠ 39 → k ≠ 40 → M'.1 k = M.1 k) ∧ ∀ a, a ≠ 38 → M'.2.2 a = M.2.2 a
theorem EqM.rf : EqM M M := ⟨fun _ _ _ _ => rfl, fun _ _ => rfl⟩
theorem EqM.tr {M' M'' : MS} (h : EqM M M') (h2 : EqM M' M'') : EqM M M'' := ⟨fun k h0 h1 h3 => (h2.1 k h0 h1 h3).trans (h.1 k h0 h1 h3), fun a ha => (h2.2 a ha).trans (h.2 a ha)⟩
theorem EqM.mT {M' : MS} {f : Nat → Int32} (h : EqM M M') : EqM M (mT M' f) := h.tr ⟨fun _ _ _ _ => rfl, fun a ha => mT_n ha⟩
theorem EqM.m0 {M' : MS} {k : Nat} {v : Int32} (h : EqM M M') (hk : k = 0 ∨ k = 39 ∨ k = 40) : EqM M (m0 M' k v) := h.tr ⟨fun j h0 h1 h3 => by rw [m0_1, up_n _ _ (by omega)], fun a ha => rfl⟩
theorem EqM.rm {M' : MS} (h : EqM M M') (hw : WS S) (hm : RM S K M) : RM S (K + 1) M' := by
  obtain ⟨h1, h2⟩ := h
  obtain ⟨m1, m2, m3, m4, m5, m6, m7⟩ := hm
  obtain ⟨w1, w2, w3, w5, w6⟩ := hw
  have hA : ∀ j, Agr j M.2.2 M'.2.2 := fun j a i hi => by
    by_cases e : a = 38
    · subst e; exact absurd hi (Nat.not_lt_zero _)
    · rw [h2 a e]
  have k : ∀ j, j ≠ 0 → j ≠ 39 → j ≠ 40 → M'.1 j = M.1 j := h1
  refine ⟨?_, m2.agr w3.1 (hA 0), m3.agr w3.2 (hA 0), ?_, ?_, ?_, MIm.agr (S := S) m7 w5 rfl (h2 49 (by decide)) fun j _ => hA j⟩
  · rw [k 2 (by decide) (by decide) (by decide), h2 1 (by decide)]; exact m1
  · rw [k 24 (by decide) (by decide) (by decide), k 25 (by decide) (by decide) (by decide)]; exact m4
  · unfold MMd at m5 ⊢
    rw [k 41 (by decide) (by decide) (by decide), k 42 (by decide) (by decide) (by decide), k 43 (by decide) (by decide) (by decide), k 44 (by decide) (by decide) (by decide), h2 37 (by decide), h2 45 (by decide), h2 46 (by decide)]
    exact m5
  · have := m6.up
    unfold MTe at this ⊢
    rw [k 36 (by decide) (by decide) (by decide), k 43 (by decide) (by decide) (by decide), h2 37 (by decide)]
    exact this
theorem INV.eq {C' : CS} {M' : MS} (h : INV S C M T K) (h1 : EqT C C') (h2 : EqM M M') : INV S C' M' T (K + 1) := ⟨h.1, h1.rc h.2.1, h2.rm h.1 h.2.2⟩
section SA
variable {A A1 A2 A3 A4 A5 A6 A7 A8 A9 A10 : LH} {q r qp qt : Option Nat} {v2 v3 v4 v5 x6 x7 x8 x9 x10 x11 : Int32}
theorem st_ab (h0 : isO A q 9 = true) (h1 : pF A q 9 2 (LI v2) = some A1) (h2 : pF A1 q 9 3 (LI v3) = some A2) (h3 : pF A2 q 9 4 (LI v4) = some A3) (h4 : pF A3 q 9 5 (LI v5) = some A4) (h5 : gR A4 r 8 0 = some qp) (h6 : f_X5_get A4 qp v2 0 = some x6) (h7 : pF A4 q 9 6 (LI x6) = some A5) (h8 : gI A5 q 9 6 = some x6) (h9 : f_J6_bitCount_0f7a4 x6 = some x7) (h10 : pF A5 q 9 7 (LI x7) = some A6) (h11 : gR A6 r 8 0 = some qp) (h12 : f_X5_get A6 qp v2 1 = some x8) (h13 : pF A6 q 9 8 (LI x8) = some A7) (h14 : gR A7 r 8 1 = some qt) (h15 : f_X5_get A7 qt v4 0 = some x9) (h16 : pF A7 q 9 9 (LI x9) = some A8) (h17 : gR A8 r 8 1 = some qt) (h18 : f_X5_get A8 qt v4 1 = some x10) (h19 : pF A8 q 9 10 (LI x10) = some A9) (h20 : gR A9 r 8 1 = some qt) (h21 : f_X5_get A9 qt v4 2 = some x11) (b : Bool) (hb : b = true ↔ x11 = v2) (h22 : pZ A9 q 9 11 (b01 b) = some A10) : f_X9_stand A q r v2 v3 v4 v5 = some A10 := by
  unfold f_X9_stand b_X9_stand
  cases b with
  | true =>
    have hx := hb.mp rfl
    have h22' : pZ A9 q 9 11 1 = some A10 := h22
    (repeat (first | with_reducible rfl | refine (bnd_eq (by first | with_reducible assumption)).trans ?_ | refine (if_pos (by first | with_reducible assumption | with_reducible rfl | decide | (dsimp only; first | with_reducible assumption | with_reducible rfl | decide))).trans ?_ | refine (if_neg (by first | with_reducible assumption | decide | (dsimp only; first | with_reducible assumption | decide))).trans ?_ | unfold b_X9_stand_107))
  | false =>
    have hx : ¬ x11 = v2 := fun z => Bool.noConfusion (hb.mpr z)
    have h22' : pZ A9 q 9 11 0 = some A10 := h22
    (repeat (first | with_reducible rfl | refine (bnd_eq (by first | with_reducible assumption)).trans ?_ | refine (if_pos (by first | with_reducible assumption | with_reducible rfl | decide | (dsimp only; first | with_reducible assumption | with_reducible rfl | decide))).trans ?_ | refine (if_neg (by first | with_reducible assumption | decide | (dsimp only; first | with_reducible assumption | decide))).trans ?_ | unfold b_X9_stand_107))
end SA
theorem pz_b (b : Bool) : pZ (hp X C M T) (some 30) 9 11 (b01 b) = some (hp X (c0 C 22 (b01 b)) M T) := by
  rw [pz_30_11, if_pos (by cases b <;> decide)]
theorem k_stand {t : TLD} (hR : RTab t (C.1 9) (C.1 10) (C.1 11) (C.2.1 2) (C.2.1 3) (C.2.1 4)) (hW : WTld t) {p a o h : Nat} (hp' : p < (t_ppl t).length) (ho : o < (t_thg t).length) : ∃ C', f_X9_stand (hp X C M T) (some 30) (some 18) (nI p) (nI a) (nI o) (nI h) = some (hp X C' M T) ∧ EqT C C' ∧ St C' (evO t p a o) h := by
  obtain ⟨r1, r2, r3, r4, r5, r6⟩ := hR
  obtain ⟨h1, h2, h3, h4, h5, h6⟩ := hW
  obtain ⟨x, hx⟩ := at_ex _ hp'
  obtain ⟨y, hy⟩ := at_ex _ ho
  have f1 := r4 p x hx
  have f2 := r5 o y hy
  have w1 := h4 p x hx
  have w2 := h5 o y hy
  have pg : ∀ (C' : CS) (j : Nat), C'.1 9 = C.1 9 → C'.2.1 2 = C.2.1 2 → j < 2 → f_X5_get (hp X C' M T) (some 19) (nI p) (nI j) = some (C.2.1 2 (p * 2 + j)) := fun C' j e1 e2 hj => by
    rw [pp_get (n := (t_ppl t).length) (e1.trans r1) hp' h1 hj, e2]
  have tg : ∀ (C' : CS) (j : Nat), C'.1 10 = C.1 10 → C'.2.1 3 = C.2.1 3 → j < 3 → f_X5_get (hp X C' M T) (some 21) (nI o) (nI j) = some (C.2.1 3 (o * 3 + j)) := fun C' j e1 e2 hj => by
    rw [th_get (n := (t_thg t).length) (e1.trans r2) ho h2 hj, e2]
  refine ⟨c0 (c0 (c0 (c0 (c0 (c0 (c0 (c0 (c0 (c0 C 13 (nI p)) 14 (nI a)) 15 (nI o)) 16 (nI h)) 17 (nI x.1)) 18 (nI (pcN x.1))) 19 (nI x.2)) 20 (nI y.1)) 21 (nI y.2.1)) 22 (b01 (y.2.2 == p)), ?_, ?_, ?_⟩
  · refine st_ab io_30 (pi_30_2 _) (pi_30_3 _) (pi_30_4 _) (pi_30_5 _) gr_18_0 (x6 := nI x.1) ?_ (pi_30_6 _) ?_ (bc_8 x.1 w1.1) (pi_30_7 _) gr_18_0 (x8 := nI x.2) ?_ (pi_30_8 _) gr_18_1 (x9 := nI y.1) ?_ (pi_30_9 _) gr_18_1 (x10 := nI y.2.1) ?_ (pi_30_10 _) gr_18_1 (x11 := nI y.2.2) ?_ (y.2.2 == p) ?_ (pz_b _)
    · have := pg (c0 (c0 (c0 (c0 C 13 (nI p)) 14 (nI a)) 15 (nI o)) 16 (nI h)) 0 rfl rfl (by decide)
      rw [nI_0] at this
      exact this.trans (congrArg some f1.1)
    · rw [gi_30_6, c0_1, up_s]
    · have := pg (c0 (c0 (c0 (c0 (c0 (c0 C 13 (nI p)) 14 (nI a)) 15 (nI o)) 16 (nI h)) 17 (nI x.1)) 18 (nI (pcN x.1))) 1 rfl rfl (by decide)
      rw [nI_1'] at this
      exact this.trans (congrArg some f1.2)
    · have := tg (c0 (c0 (c0 (c0 (c0 (c0 (c0 C 13 (nI p)) 14 (nI a)) 15 (nI o)) 16 (nI h)) 17 (nI x.1)) 18 (nI (pcN x.1))) 19 (nI x.2)) 0 rfl rfl (by decide)
      rw [nI_0] at this
      exact this.trans (congrArg some f2.1)
    · have := tg (c0 (c0 (c0 (c0 (c0 (c0 (c0 (c0 C 13 (nI p)) 14 (nI a)) 15 (nI o)) 16 (nI h)) 17 (nI x.1)) 18 (nI (pcN x.1))) 19 (nI x.2)) 20 (nI y.1)) 1 rfl rfl (by decide)
      rw [nI_1'] at this
      exact this.trans (congrArg some f2.2.1)
    · have := tg (c0 (c0 (c0 (c0 (c0 (c0 (c0 (c0 (c0 C 13 (nI p)) 14 (nI a)) 15 (nI o)) 16 (nI h)) 17 (nI x.1)) 18 (nI (pcN x.1))) 19 (nI x.2)) 20 (nI y.1)) 21 (nI y.2.1)) 2 rfl rfl (by decide)
      rw [nI_2] at this
      exact this.trans (congrArg some f2.2.2)
    · rw [beq_iff_eq]
      exact (nI_eq (by omega) (by omega)).symm
  · exact ((((((((((EqT.rf.c0 (by omega)).c0 (by omega)).c0 (by omega)).c0 (by omega)).c0 (by omega)).c0 (by omega)).c0 (by omega)).c0 (by omega)).c0 (by omega)).c0 (by omega))
  · unfold evO
    rw [hx, hy]
    exact ⟨rfl, rfl, rfl, rfl, rfl, rfl, rfl, rfl, rfl, rfl⟩
theorem sa_ab {A A1 : LH} {q r qa : Option Nat} {v2 x1 x2 x3 x4 : Int32} (h0 : isO A q 9 = true) (h1 : gR A r 8 2 = some qa) (h2 : f_X5_get A qa v2 0 = some x1) (h3 : f_X5_get A qa v2 1 = some x2) (h4 : f_X5_get A qa v2 2 = some x3) (h5 : f_X5_get A qa v2 3 = some x4) (h6 : f_X9_stand A q r x1 x2 x3 x4 = some A1) : f_X9_standAtAsk A q r v2 = some A1 := by
  unfold f_X9_standAtAsk b_X9_standAtAsk
  (repeat (first | with_reducible rfl | refine (bnd_eq (by first | with_reducible assumption)).trans ?_ | refine (if_pos (by first | with_reducible assumption | with_reducible rfl | decide | (dsimp only; first | with_reducible assumption | with_reducible rfl | decide))).trans ?_ | refine (if_neg (by first | with_reducible assumption | decide | (dsimp only; first | with_reducible assumption | decide))).trans ?_))
/-- the Trial stands at an ASK of THE BOOK -/
theorem k_atAsk {t : TLD} (hR : RTab t (C.1 9) (C.1 10) (C.1 11) (C.2.1 2) (C.2.1 3) (C.2.1 4)) (hW : WTld t) {i : Nat} {x : Nat × Nat × Nat × Nat × Int32} (hx : (t_bk t)[i]? = some x) : ∃ C', f_X9_standAtAsk (hp X C M T) (some 30) (some 18) (nI i) = some (hp X C' M T) ∧ EqT C C' ∧ St C' (evO t x.1 x.2.1 x.2.2.1) x.2.2.2.1 := by
  have hR' := hR
  obtain ⟨r1, r2, r3, r4, r5, r6⟩ := hR
  have f := r6 i x hx
  have w := hW.2.2.2.2.2 i x hx
  have ag : ∀ (j : Nat), j < 5 → f_X5_get (hp X C M T) (some 23) (nI i) (nI j) = some (C.2.1 4 (i * 5 + j)) := fun j hj => as_get r3 (at_lt hx) hW.2.2.1 hj
  obtain ⟨C', c1, c2, c3⟩ := k_stand (X := X) (M := M) (T := T) (a := x.2.1) (h := x.2.2.2.1) hR' hW w.1 w.2.2.1
  refine ⟨C', ?_, c2, c3⟩
  refine sa_ab io_30 gr_18_2 ?_ ?_ ?_ ?_ c1
  · have := ag 0 (by decide); rw [nI_0] at this; exact this.trans (congrArg some f.1)
  · have := ag 1 (by decide); rw [nI_1'] at this; exact this.trans (congrArg some f.2.1)
  · have := ag 2 (by decide); rw [nI_2] at this; exact this.trans (congrArg some f.2.2.1)
  · have := ag 3 (by decide); rw [nI_3] at this; exact this.trans (congrArg some f.2.2.2.1)
end STD
