/-! decide, tried, decides, lost -/
section DTL
variable {X : XS} {C : CS} {M : MS} {T : TS} {S : SG} {K : Nat} {mu : List Nat}
def decR (e : EV) (h : Nat) (r : RSV) : Option Nat := decP r.1 r.2.length (hB e h r.2) (letB r.2)
def letR (e : EV) (h : Nat) (r : RSV) : Bool := letP r.1 r.2.length (hB e h r.2) (letB r.2)
theorem hM_0 (e : EV) (h : Nat) (ls : List LNV) : hM e h ls 0 = hB e h ls := by
  funext k; unfold hM; rw [b_0]; rfl
theorem ltM_0 (ls : List LNV) : ltM ls 0 = letB ls := by
  funext k; unfold ltM; rw [b_0, Bool.xor_false]
theorem m_dec0 (N : Nat) (hN : 1820 ≤ N) {e : EV} {h s : Nat} {r : RSV} (hs : s < 4) (hh : h < 24) (me : MEv M e) (w : WEv e) (wr : WRs r) (hr : MRs M s r) (h39 : M.1 39 = 0) (h40 : M.1 40 = 0) : ∃ f, f_X11_decider N (hp X C M T) (some 35) (nI s) (nI (e_p e)) (nI (e_a e)) (nI (e_t e)) (nI h) = some (oI (decR e h r), hp X C (mT M f) T) := by
  have := m_dec (X := X) (C := C) (T := T) N hN hs hh me w wr hr
  rw [h39, h40, hM_0, ltM_0] at this
  exact this
theorem m_let0 (N : Nat) (hN : 1820 ≤ N) {e : EV} {h s : Nat} {r : RSV} (hs : s < 4) (hh : h < 24) (me : MEv M e) (w : WEv e) (wr : WRs r) (hr : MRs M s r) (h39 : M.1 39 = 0) (h40 : M.1 40 = 0) : ∃ f, f_X11_isLet N (hp X C M T) (some 35) (nI s) (nI (e_p e)) (nI (e_a e)) (nI (e_t e)) (nI h) = some (b01 (letR e h r), hp X C (mT M f) T) := by
  have := m_isLet (X := X) (C := C) (T := T) N hN hs hh me w wr hr
  rw [h39, h40, hM_0, ltM_0] at this
  exact this
/-- out and turned are 0 -/
def mZ (M : MS) : MS := m0 (m0 (m0 M 0 0) 39 0) 40 0
theorem mZ_eq : EqM M (mZ M) := ((EqM.rf.m0 (Or.inl rfl)).m0 (Or.inr (Or.inl rfl))).m0 (Or.inr (Or.inr rfl))
theorem eqM_z : EqM M (m0 M 0 0) := EqM.rf.m0 (Or.inl rfl)
section DA
variable {A A1 A2 : LH} {q qt qo p : Option Nat} {v1 v2 v3 v4 v5 v6 x : Int32}
theorem de_no {N : Nat} (h0 : isO A q 10 = true) (h1 : f_X10_rulesIn A q v1 = some none) : f_X10_decide N A q v1 v2 v3 v4 v5 v6 = some (-2, A) := by
  unfold f_X10_decide b_X10_decide
  (repeat (first | with_reducible rfl | refine (bnd_eq (by first | with_reducible assumption)).trans ?_ | refine (if_pos (by first | with_reducible assumption | with_reducible rfl | decide | (dsimp only; first | with_reducible assumption | with_reducible rfl | decide))).trans ?_ | refine (if_neg (by first | with_reducible assumption | decide | (dsimp only; first | with_reducible assumption | decide))).trans ?_))
theorem de_ca {N : Nat} (h0 : isO A q 10 = true) (h1 : f_X10_rulesIn A q v1 = some p) (hp : ¬ p = none) (h2 : gR A q 10 2 = some qo) (h3 : f_X8_canBeAsked A qo v2 v3 v4 v5 = some 0) : f_X10_decide N A q v1 v2 v3 v4 v5 v6 = some (-2, A) := by
  unfold f_X10_decide b_X10_decide
  (repeat (first | with_reducible rfl | refine (bnd_eq (by first | with_reducible assumption)).trans ?_ | refine (if_pos (by first | with_reducible assumption | with_reducible rfl | decide | (dsimp only; first | with_reducible assumption | with_reducible rfl | decide))).trans ?_ | refine (if_neg (by first | with_reducible assumption | decide | (dsimp only; first | with_reducible assumption | decide))).trans ?_))
theorem de_let {N : Nat} (h0 : isO A q 10 = true) (h1 : f_X10_rulesIn A q v1 = some p) (hp : ¬ p = none) (h2 : gR A q 10 2 = some qo) (h3 : f_X8_canBeAsked A qo v2 v3 v4 v5 = some 1) (h4 : gR A q 10 4 = some qt) (h5 : f_X9_stand A qt qo v2 v3 v4 v5 = some A1) (h6 : v6 = 0) (h7 : gR A1 q 10 4 = some qt) (b : Bool) (h8 : f_X9_lets N A1 qt p = some (b01 b, A2)) : f_X10_decide N A q v1 v2 v3 v4 v5 v6 = some (b01 b, A2) := by
  unfold f_X10_decide b_X10_decide
  cases b with
  | true =>
    show _ = some ((1 : Int32), A2)
    (repeat (first | with_reducible rfl | refine (bnd_eq (by first | with_reducible assumption)).trans ?_ | refine (if_pos (by first | with_reducible assumption | with_reducible rfl | decide | (dsimp only; first | with_reducible assumption | with_reducible rfl | decide))).trans ?_ | refine (if_neg (by first | with_reducible assumption | decide | (dsimp only; first | with_reducible assumption | decide))).trans ?_))
  | false =>
    show _ = some ((0 : Int32), A2)
    (repeat (first | with_reducible rfl | refine (bnd_eq (by first | with_reducible assumption)).trans ?_ | refine (if_pos (by first | with_reducible assumption | with_reducible rfl | decide | (dsimp only; first | with_reducible assumption | with_reducible rfl | decide))).trans ?_ | refine (if_neg (by first | with_reducible assumption | decide | (dsimp only; first | with_reducible assumption | decide))).trans ?_))
theorem de_which {N : Nat} (h0 : isO A q 10 = true) (h1 : f_X10_rulesIn A q v1 = some p) (hp : ¬ p = none) (h2 : gR A q 10 2 = some qo) (h3 : f_X8_canBeAsked A qo v2 v3 v4 v5 = some 1) (h4 : gR A q 10 4 = some qt) (h5 : f_X9_stand A qt qo v2 v3 v4 v5 = some A1) (h6 : ¬ v6 = 0) (h7 : gR A1 q 10 4 = some qt) (h8 : f_X9_decider N A1 qt p = some (x, A2)) : f_X10_decide N A q v1 v2 v3 v4 v5 v6 = some (x, A2) := by
  unfold f_X10_decide b_X10_decide
  (repeat (first | with_reducible rfl | refine (bnd_eq (by first | with_reducible assumption)).trans ?_ | refine (if_pos (by first | with_reducible assumption | with_reducible rfl | decide | (dsimp only; first | with_reducible assumption | with_reducible rfl | decide))).trans ?_ | refine (if_neg (by first | with_reducible assumption | decide | (dsimp only; first | with_reducible assumption | decide))).trans ?_))
theorem me_no {N : Nat} (h0 : isO A q 11 = true) (h1 : pF A q 11 0 (LI 0) = some A1) (h2 : f_X11_isSlot A1 q v1 = some 0) : f_X11_decide N A q v1 v2 v3 v4 v5 v6 = some (-2, A1) := by
  unfold f_X11_decide b_X11_decide
  (repeat (first | with_reducible rfl | refine (bnd_eq (by first | with_reducible assumption)).trans ?_ | refine (if_pos (by first | with_reducible assumption | with_reducible rfl | decide | (dsimp only; first | with_reducible assumption | with_reducible rfl | decide))).trans ?_ | refine (if_neg (by first | with_reducible assumption | decide | (dsimp only; first | with_reducible assumption | decide))).trans ?_))
theorem me_ca {N : Nat} (h0 : isO A q 11 = true) (h1 : pF A q 11 0 (LI 0) = some A1) (h2 : f_X11_isSlot A1 q v1 = some 1) (h3 : f_X11_canAsk A1 q v2 v3 v4 v5 = some 0) : f_X11_decide N A q v1 v2 v3 v4 v5 v6 = some (-2, A1) := by
  unfold f_X11_decide b_X11_decide
  (repeat (first | with_reducible rfl | refine (bnd_eq (by first | with_reducible assumption)).trans ?_ | refine (if_pos (by first | with_reducible assumption | with_reducible rfl | decide | (dsimp only; first | with_reducible assumption | with_reducible rfl | decide))).trans ?_ | refine (if_neg (by first | with_reducible assumption | decide | (dsimp only; first | with_reducible assumption | decide))).trans ?_))
theorem me_let {N : Nat} {A3 A4 : LH} (h0 : isO A q 11 = true) (h1 : pF A q 11 0 (LI 0) = some A1) (h2 : f_X11_isSlot A1 q v1 = some 1) (h3 : f_X11_canAsk A1 q v2 v3 v4 v5 = some 1) (h4 : pF A1 q 11 39 (LI 0) = some A2) (h5 : pF A2 q 11 40 (LI 0) = some A3) (h6 : v6 = 0) (b : Bool) (h7 : f_X11_isLet N A3 q v1 v2 v3 v4 v5 = some (b01 b, A4)) : f_X11_decide N A q v1 v2 v3 v4 v5 v6 = some (b01 b, A4) := by
  unfold f_X11_decide b_X11_decide
  cases b with
  | true =>
    show _ = some ((1 : Int32), A4)
    (repeat (first | with_reducible rfl | refine (bnd_eq (by first | with_reducible assumption)).trans ?_ | refine (if_pos (by first | with_reducible assumption | with_reducible rfl | decide | (dsimp only; first | with_reducible assumption | with_reducible rfl | decide))).trans ?_ | refine (if_neg (by first | with_reducible assumption | decide | (dsimp only; first | with_reducible assumption | decide))).trans ?_))
  | false =>
    show _ = some ((0 : Int32), A4)
    (repeat (first | with_reducible rfl | refine (bnd_eq (by first | with_reducible assumption)).trans ?_ | refine (if_pos (by first | with_reducible assumption | with_reducible rfl | decide | (dsimp only; first | with_reducible assumption | with_reducible rfl | decide))).trans ?_ | refine (if_neg (by first | with_reducible assumption | decide | (dsimp only; first | with_reducible assumption | decide))).trans ?_))
theorem me_which {N : Nat} {A3 A4 : LH} (h0 : isO A q 11 = true) (h1 : pF A q 11 0 (LI 0) = some A1) (h2 : f_X11_isSlot A1 q v1 = some 1) (h3 : f_X11_canAsk A1 q v2 v3 v4 v5 = some 1) (h4 : pF A1 q 11 39 (LI 0) = some A2) (h5 : pF A2 q 11 40 (LI 0) = some A3) (h6 : ¬ v6 = 0) (h7 : f_X11_decider N A3 q v1 v2 v3 v4 v5 = some (x, A4)) : f_X11_decide N A q v1 v2 v3 v4 v5 v6 = some (x, A4) := by
  unfold f_X11_decide b_X11_decide
  (repeat (first | with_reducible rfl | refine (bnd_eq (by first | with_reducible assumption)).trans ?_ | refine (if_pos (by first | with_reducible assumption | with_reducible rfl | decide | (dsimp only; first | with_reducible assumption | with_reducible rfl | decide))).trans ?_ | refine (if_neg (by first | with_reducible assumption | decide | (dsimp only; first | with_reducible assumption | decide))).trans ?_))
end DA
theorem op_decide (N : Nat) (hN : 1820 ≤ N) (h : INV S C M T K) (x p a o u w : Int32) : ∃ r C' M', f_X10_decide N (hp X C M T) (some 8) x p a o u w = some (r, hp X C' M T) ∧ f_X11_decide N (hp X C' M T) (some 35) x p a o u w = some (r, hp X C' M' T) ∧ INV S C' M' T (K + 1) := by
  have hz := h.z
  have hI := h
  obtain ⟨hW, hC, hM⟩ := h
  obtain ⟨a1, a2, a3, a4, a5, mu, a6, a7⟩ := hC
  have wt := hW.2.2.1.1
  rcases i_cases x 4 (by decide) with ⟨k, hk, rfl⟩ | hx
  · obtain ⟨q, hq, hr⟩ := k_rin (X := X) (M := M) a6 hk
    have hne : ¬ some q = none := fun z => nomatch z
    have wr := hW.2.2.1.2 k hk
    have mr : MRs M k (t_sl (s_told S) k) := MRs.of hM.2.2.1 hk
    rcases ask_cases (s_told S) wt.1 wt.2.1 p a o u with ⟨p', a', o', u', rfl, rfl, rfl, rfl, hc⟩ | hc
    · obtain ⟨c1, c2, c3, c4⟩ := hc
      obtain ⟨C1, d1, d2, d3⟩ := k_stand (X := X) (M := M) (T := T) (a := a') (h := u') a2 wt c1 c3
      have we := WEv.of wt (a := a') c1 c2 c3
      have me : MEv (mZ M) (evO (s_told S) p' a' o') := MEv.of wt hM.2.1 c1 c3
      have mr' : MRs (mZ M) k (t_sl (s_told S) k) := mr
      have s1 : ∀ C : CS, f_X11_canAsk (hp X C (m0 M 0 0) T) (some 35) (nI p') (nI a') (nI o') (nI u') = some 1 := fun C => mcan_t (M := m0 M 0 0) (S := S) hM.2.1 wt ⟨c1, c2, c3, c4⟩
      have s2 := can_t (X := X) (M := M) (T := T) a2 wt (show CanA (s_told S) p' a' o' u' from ⟨c1, c2, c3, c4⟩)
      have s3 : ∀ C : CS, f_X11_isSlot (hp X C (m0 M 0 0) T) (some 35) (nI k) = some 1 := fun C => isSl_t hk
      by_cases hw : w = 0
      · obtain ⟨f, v, e1⟩ := k_let (X := X) (M := M) N (by omega) c4 d3 we wr hr
        obtain ⟨g, e2⟩ := m_let0 (X := X) (C := kT C1 f v) (T := T) N hN hk c4 me we wr mr' rfl rfl
        exact ⟨b01 (letR (evO (s_told S) p' a' o') u' (t_sl (s_told S) k)), kT C1 f v, mT (mZ M) g, de_let io_8 hq hne gr_8_2 s2 gr_8_4 d1 hw gr_8_4 _ e1, me_let io_35 (pi_35_0 0) (s3 _) (s1 _) (pi_35_39 0) (pi_35_40 0) hw _ e2, hI.eq d2.kT mZ_eq.mT⟩
      · obtain ⟨f, v, e1⟩ := k_dec (X := X) (M := M) N (by omega) c4 d3 we wr hr
        obtain ⟨g, e2⟩ := m_dec0 (X := X) (C := kT C1 f v) (T := T) N hN hk c4 me we wr mr' rfl rfl
        exact ⟨oI (decR (evO (s_told S) p' a' o') u' (t_sl (s_told S) k)), kT C1 f v, mT (mZ M) g, de_which io_8 hq hne gr_8_2 s2 gr_8_4 d1 hw gr_8_4 e1, me_which io_35 (pi_35_0 0) (s3 _) (s1 _) (pi_35_39 0) (pi_35_40 0) hw e2, hI.eq d2.kT mZ_eq.mT⟩
    · have f1 := (can_f (X := X) (C := C) (M := M) (T := T) a2 hM.2.1 wt hc).1
      have f2 := (can_f (X := X) (C := C) (M := m0 M 0 0) (T := T) a2 hM.2.1 wt hc).2
      exact ⟨-2, C, m0 M 0 0, de_ca io_8 hq hne gr_8_2 f1, me_ca io_35 (pi_35_0 0) (isSl_t hk) f2, hz⟩
  · exact ⟨-2, C, m0 M 0 0, de_no io_8 (k_rin_f hx), me_no io_35 (pi_35_0 0) (isSl_f hx), hz⟩
end DTL
