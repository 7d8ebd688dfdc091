/-! the class's mend -/
section KA
variable {A A1 A2 A3 A4 : LH} {q r x y qo qa qt qs : Option Nat} {v1 v3 n a b : Int32}
theorem ss_ab (N : Nat) {l : Int32} (h0 : isO A q 4 = true) (h1 : gI A r 3 0 = some a) (h2 : pF A q 4 3 (LI a) = some A1) (h3 : gR A1 r 3 1 = some x) (h4 : ln6 A1 x = some n) (h5 : pF A1 q 4 4 (LI n) = some A2) (h6 : f_X3_letSet N A2 r = some l) (h7 : pF A2 q 4 5 (LI l) = some A3) (h8 : pF A3 q 4 2 (LI 0) = some A4) : f_X4_start N A q r = some A4 := by
  unfold f_X4_start b_X4_start
  (repeat (first | with_reducible rfl | refine (bnd_eq (by first | with_reducible assumption)).trans ?_ | refine (if_pos (by first | with_reducible assumption | with_reducible rfl | decide | (dsimp only; first | with_reducible assumption | with_reducible rfl | decide))).trans ?_ | refine (if_neg (by first | with_reducible assumption | decide | (dsimp only; first | with_reducible assumption | decide))).trans ?_))
theorem le_ab (N : Nat) {l : Int32} (h0 : isO A r 3 = true) (h1 : gR A r 3 1 = some x) (h2 : l_X3_letsOf_4 N A N x 0 0 = some l) : f_X3_letSet N A r = some l := by
  unfold f_X3_letSet b_X3_letSet f_X3_letsOf b_X3_letsOf
  exact (if_pos h0).trans ((bnd_eq h1).trans ((bnd_eq h2).trans rfl))
theorem mn_no {N : Nat} (h0 : isO A q 10 = true) (h1 : f_X10_rulesIn A q v1 = some none) : f_X10_mend N A q v1 = some (-1, A) := by
  unfold f_X10_mend b_X10_mend
  (repeat (first | with_reducible rfl | refine (bnd_eq (by first | with_reducible assumption)).trans ?_ | refine (if_pos (by first | with_reducible assumption | with_reducible rfl | decide | (dsimp only; first | with_reducible assumption | with_reducible rfl | decide))).trans ?_ | refine (if_neg (by first | with_reducible assumption | decide | (dsimp only; first | with_reducible assumption | decide))).trans ?_))
theorem mn_go {N : Nat} (h0 : isO A q 10 = true) (h1 : f_X10_rulesIn A q v1 = some r) (hp : ¬ r = none) (h2 : gR A q 10 5 = some qs) (h3 : f_X4_start N A qs r = some A1) (h4 : l_X10_mend_22 N N A1 q v1 r 0 = some (a, A2)) : f_X10_mend N A q v1 = some (a, A2) := by
  unfold f_X10_mend b_X10_mend
  (repeat (first | with_reducible rfl | refine (bnd_eq (by first | with_reducible assumption)).trans ?_ | refine (if_pos (by first | with_reducible assumption | with_reducible rfl | decide | (dsimp only; first | with_reducible assumption | with_reducible rfl | decide))).trans ?_ | refine (if_neg (by first | with_reducible assumption | decide | (dsimp only; first | with_reducible assumption | decide))).trans ?_))
  exact h4
theorem ml_un (N m : Nat) (h1 : gR A q 10 2 = some qo) (h2 : gR A qo 8 2 = some qa) (h3 : gI A qa 5 3 = some n) (h4 : ¬ n ≤ v3) (h5 : f_X5_get A qa v3 4 = some (-1)) : l_X10_mend_22 N (m + 1) A q v1 r v3 = l_X10_mend_22 N m A q v1 r (v3 + 1) := by
  show b_X10_mend_22 N _ A q v1 r v3 = _
  unfold b_X10_mend_22
  (repeat (first | with_reducible rfl | refine (bnd_eq (by first | with_reducible assumption)).trans ?_ | refine (if_pos (by first | with_reducible assumption | with_reducible rfl | decide | (dsimp only; first | with_reducible assumption | with_reducible rfl | decide))).trans ?_ | refine (if_neg (by first | with_reducible assumption | decide | (dsimp only; first | with_reducible assumption | decide))).trans ?_))
theorem ml_mk (N m : Nat) (h1 : gR A q 10 2 = some qo) (h2 : gR A qo 8 2 = some qa) (h3 : gI A qa 5 3 = some n) (h4 : ¬ n ≤ v3) (h5 : f_X5_get A qa v3 4 = some a) (h6 : ¬ a = -1) (h7 : gR A q 10 4 = some qt) (h8 : f_X9_standAtAsk A qt qo v3 = some A1) (h9 : gR A1 q 10 5 = some qs) (h10 : gR A1 q 10 4 = some qt) (h11 : f_X9_linesHeld N A1 qt r = some (b, A2)) (h12 : f_X4_want N A2 qs b a = some A3) : l_X10_mend_22 N (m + 1) A q v1 r v3 = l_X10_mend_22 N m A3 q v1 r (v3 + 1) := by
  show b_X10_mend_22 N _ A q v1 r v3 = _
  unfold b_X10_mend_22
  (repeat (first | with_reducible rfl | refine (bnd_eq (by first | with_reducible assumption)).trans ?_ | refine (if_pos (by first | with_reducible assumption | with_reducible rfl | decide | (dsimp only; first | with_reducible assumption | with_reducible rfl | decide))).trans ?_ | refine (if_neg (by first | with_reducible assumption | decide | (dsimp only; first | with_reducible assumption | decide))).trans ?_))
theorem ml_fn (N m : Nat) (h1 : gR A q 10 2 = some qo) (h2 : gR A qo 8 2 = some qa) (h3 : gI A qa 5 3 = some n) (h4 : n ≤ v3) (h5 : gR A q 10 5 = some qs) (h6 : f_X4_fewest N A qs = some (-1, A1)) : l_X10_mend_22 N (m + 1) A q v1 r v3 = some (-1, A1) := by
  show b_X10_mend_22 N _ A q v1 r v3 = _
  unfold b_X10_mend_22
  (repeat (first | with_reducible rfl | refine (bnd_eq (by first | with_reducible assumption)).trans ?_ | refine (if_pos (by first | with_reducible assumption | with_reducible rfl | decide | (dsimp only; first | with_reducible assumption | with_reducible rfl | decide))).trans ?_ | refine (if_neg (by first | with_reducible assumption | decide | (dsimp only; first | with_reducible assumption | decide))).trans ?_))
theorem ml_fs (N m : Nat) {B A5 : LH} (h1 : gR A q 10 2 = some qo) (h2 : gR A qo 8 2 = some qa) (h3 : gI A qa 5 3 = some n) (h4 : n ≤ v3) (h5 : gR A q 10 5 = some qs) (h6 : f_X4_fewest N A qs = some (a, A1)) (h7 : ¬ a = -1) (hB : al A1 (.inr (1, [LI 0, LI 0, LI 0, LI 0])) 4 = B) (h8 : gR B q 10 5 = some qs) {u w : Int32} (h9 : gI B qs 4 6 = some u) (h10 : gI B qs 4 7 = some w) (h11 : f_X1_init B (some (8 + hn A1)) v1 u w = some A4) (h12 : pF A4 q 10 6 (LR (some (8 + hn A1))) = some A5) : l_X10_mend_22 N (m + 1) A q v1 r v3 = some (a, A5) := by
  subst hB
  show b_X10_mend_22 N _ A q v1 r v3 = _
  unfold b_X10_mend_22
  (repeat (first | with_reducible rfl | refine (bnd_eq (by first | with_reducible assumption)).trans ?_ | refine (if_pos (by first | with_reducible assumption | with_reducible rfl | decide | (dsimp only; first | with_reducible assumption | with_reducible rfl | decide))).trans ?_ | refine (if_neg (by first | with_reducible assumption | decide | (dsimp only; first | with_reducible assumption | decide))).trans ?_))
theorem m1_ab {u w : Int32} (h0 : isO A q 1 = true) (h1 : pF A q 1 0 (LI v1) = some A1) (h2 : pF A1 q 1 1 (LI u) = some A2) (h3 : pF A2 q 1 2 (LI w) = some A3) (h4 : pZ A3 q 1 3 1 = some A4) : f_X1_init A q v1 u w = some A4 := by
  unfold f_X1_init b_X1_init
  (repeat (first | with_reducible rfl | refine (bnd_eq (by first | with_reducible assumption)).trans ?_ | refine (if_pos (by first | with_reducible assumption | with_reducible rfl | decide | (dsimp only; first | with_reducible assumption | with_reducible rfl | decide))).trans ?_ | refine (if_neg (by first | with_reducible assumption | decide | (dsimp only; first | with_reducible assumption | decide))).trans ?_))
end KA
section KMD
variable {X : XS} {C : CS} {M : MS} {T : TS} {S : SG} {K : Nat} {mu : List Nat}
/-- only the Trial's and the Search's cells differ -/
def EqX (C C' : CS) : Prop := (∀ k, k < 12 ∨ 28 < k → C'.1 k = C.1 k) ∧ (∀ a, a ≠ 5 → a ≠ 6 → a ≠ 7 → C'.2.1 a = C.2.1 a) ∧ C'.2.2 = C.2.2
theorem EqX.rf : EqX C C := ⟨fun _ _ => rfl, fun _ _ _ _ => rfl, rfl⟩
theorem EqX.tr {C' C'' : CS} (h : EqX C C') (h2 : EqX C' C'') : EqX C C'' := ⟨fun k hk => (h2.1 k hk).trans (h.1 k hk), fun a h5 h6 h7 => (h2.2.1 a h5 h6 h7).trans (h.2.1 a h5 h6 h7), h2.2.2.trans h.2.2⟩
theorem EqT.x {C' : CS} (h : EqT C C') : EqX C C' := ⟨fun k hk => h.1 k (by omega), fun a h5 _ _ => h.2.1 a h5, h.2.2⟩
theorem EqX.sc {C' : CS} {k : Nat} {v : Int32} (h : EqX C C') (hk : 12 ≤ k ∧ k ≤ 28) : EqX C (c0 C' k v) := h.tr ⟨fun j hj => by rw [c0_1, up_n _ _ (by omega)], fun a _ _ _ => rfl, rfl⟩
theorem EqX.sa {C' : CS} {k : Nat} {f : Nat → Int32} (h : EqX C C') (hk : k = 6 ∨ k = 7) : EqX C (ca C' k f) := h.tr ⟨fun j hj => rfl, fun a _ _ _ => by rw [ca_21, up_n _ _ (by omega)], rfl⟩
theorem EqX.tab {C' : CS} {t : TLD} (h : EqX C C') (hR : RTab t (C.1 9) (C.1 10) (C.1 11) (C.2.1 2) (C.2.1 3) (C.2.1 4)) : RTab t (C'.1 9) (C'.1 10) (C'.1 11) (C'.2.1 2) (C'.2.1 3) (C'.2.1 4) := by
  obtain ⟨h1, h2, h3⟩ := h
  rw [h1 9 (by omega), h1 10 (by omega), h1 11 (by omega), h2 2 (by omega) (by omega) (by omega), h2 3 (by omega) (by omega) (by omega), h2 4 (by omega) (by omega) (by omega)]; exact hR
theorem EqX.rc {C' : CS} (h : EqX C C') (hc : RC S C T) : RC S C' T := by
  obtain ⟨a1, a2, a3, a4, a5, mu, a6, a7⟩ := hc
  have ht := h.tab a2
  obtain ⟨h1, h2, h3⟩ := h
  refine ⟨?_, ht, ?_, a4, a5, mu, ?_, ?_⟩
  · rw [h1 0 (by omega), h2 0 (by omega) (by omega) (by omega)]; exact a1
  · rw [h1 29 (by omega), h1 30 (by omega)]; exact a3
  · rw [h3]; exact a6
  · rw [h3]; exact a7
/-- the LINES that HOLD, as bits -/
theorem k_linesH (N : Nat) (hN : 601 ≤ N) {e : EV} {h q : Nat} {r : RSV} (hh : h < 24) (s : St C e h) (w : WEv e) (wr : WRs r) (hr : isRl mu T q r) : ∃ f v u, f_X9_linesHeld N (hp X C M T) (some 30) (some q) = some (u, hp X (kT C f v) M T) ∧ ∀ j, j < 32 → bt u j = (decide (j < r.2.length) && hB e h r.2 j) := by
  obtain ⟨w1, w2, w3⟩ := wr
  obtain ⟨z0, ql, qo, fl, fo, z1, z2, z3, z4, z5, z6, z7⟩ := hr
  have gR1 : ∀ C : CS, gR (hp X C M T) (some q) 3 1 = some (some ql) := fun C => gR_at (z0.gc.trans z3) rfl
  have gL : ∀ C : CS, ln6 (hp X C M T) (some ql) = some (nI r.2.length) := fun C => ln6_at (z1.gc.trans z4) (by decide)
  have lp : ∀ (d m i : Nat) (f : Nat → Int32) (v u : Int32), r.2.length = i + d → d < m → (∀ j, j < 32 → bt u j = (decide (j < i) && hB e h r.2 j)) → ∃ f' v' u', l_X9_linesHeld_4 N m (hp X (kT C f v) M T) (some 30) (some q) u (nI i) = some (u', hp X (kT C f' v') M T) ∧ ∀ j, j < 32 → bt u' j = (decide (j < r.2.length) && hB e h r.2 j) := by
    intro d
    induction d with
    | zero =>
      intro m i f v u h1 h2 h3
      obtain ⟨m, rfl⟩ : ∃ k, m = k + 1 := ⟨m - 1, by omega⟩
      exact ⟨f, v, u, lh_end N m (gR1 _) (gL _) (nI_le (by omega) (by omega)), by rw [show r.2.length = i by omega]; exact h3⟩
    | succ d ih =>
      intro m i f v u h1 h2 h3
      obtain ⟨m, rfl⟩ : ∃ k, m = k + 1 := ⟨m - 1, by omega⟩
      obtain ⟨ln, hln⟩ := at_ex r.2 (show i < r.2.length by omega)
      obtain ⟨p, p1, p2⟩ := z6 i ln hln
      have gA : aR (hp X (kT C f v) M T) (some ql) 3 (nI i) = some (some p) := by rw [aR_at (z1.gc.trans z4) (at_lt hln) (by omega), p1]
      obtain ⟨b, f1, v1, b1, b2⟩ := k_held (X := X) (M := M) (C := kT C f v) N hN (s.kT (f := f) (v := v)) w (w3 ln (List.mem_of_getElem? hln)) p2
      rw [kT_kT] at b1
      have hB' : hB e h r.2 i = hldB e h ln := by unfold hB; rw [hln]
      have hb := hb_e b (i := h) (by omega)
      rw [b2 h (by omega), show decide (h < 24) = true by simp [hh], Bool.true_and, ← hB'] at hb
      have g5 : gI (hp X (kT C f1 v1) M T) (some 30) 9 5 = some (nI h) := by rw [gi_30_5, kT_1 (by decide), s.2.2.2.1]
      have hlt : ¬ nI r.2.length ≤ nI i := nI_ge (by omega) (by omega)
      cases hq : hB e h r.2 i with
      | false =>
        rw [hq] at hb
        obtain ⟨f', v', u', g1, g2⟩ := ih m (i + 1) f1 v1 u (by omega) (by omega) (fun j hj => by
          rw [h3 j hj]
          by_cases q : j = i
          · subst q; rw [hq]; simp
          · have : decide (j < i + 1) = decide (j < i) := by simp; omega
            rw [this])
        refine ⟨f', v', u', ?_, g2⟩
        rw [lh_0 N m (gR1 _) (gL _) hlt gA b1 g5 hb, nI_1]
        exact g1
      | true =>
        rw [hq] at hb
        obtain ⟨f', v', u', g1, g2⟩ := ih m (i + 1) f1 v1 (u ||| ((1 : Int32) <<< (nI i &&& 31))) (by omega) (by omega) (fun j hj => by
          rw [b_or, h3 j hj, bt_one (by omega) hj]
          by_cases q : j = i
          · subst q; rw [hq]; simp
          · have : decide (j < i + 1) = decide (j < i) := by simp; omega
            simp [q, this])
        refine ⟨f', v', u', ?_, g2⟩
        rw [lh_1 N m (gR1 _) (gL _) hlt gA b1 g5 hb, nI_1]
        exact g1
  obtain ⟨f', v', u', g1, g2⟩ := lp r.2.length N 0 (C.2.1 5) (C.1 12) 0 (by omega) (by omega) (fun j hj => by rw [b_0]; simp)
  rw [kT_id, nI_0] at g1
  refine ⟨f', v', u', ?_, g2⟩
  unfold f_X9_linesHeld b_X9_linesHeld
  rw [io_30, if_pos rfl]
  exact g1
theorem k_want (N : Nat) (hN : 201 ≤ N) {en : List (Int32 × Int32)} (he : EnL C en) (hlen : en.length < 200) (a b : Int32) : ∃ C' en', f_X4_want N (hp X C M T) (some 32) a b = some (hp X C' M T) ∧ EqX C C' ∧ (∀ k, k ≠ 23 → C'.1 k = C.1 k) ∧ EnL C' en' ∧ en'.length ≤ en.length + 1 ∧ ∀ x, x ∈ en' ↔ x ∈ en ∨ x = (a, b) := by
  obtain ⟨e1, e2, e3⟩ := he
  have g2 : gI (hp X C M T) (some 32) 4 2 = some (nI en.length) := by rw [gi_32_2, e1]
  have lp : ∀ (d m i : Nat), en.length = i + d → d < m → (∀ j x, j < i → en[j]? = some x → x ≠ (a, b)) → ∃ C' en', l_X4_want_2 N m (hp X C M T) (some 32) a b (nI i) = some (hp X C' M T) ∧ EqX C C' ∧ (∀ k, k ≠ 23 → C'.1 k = C.1 k) ∧ EnL C' en' ∧ en'.length ≤ en.length + 1 ∧ ∀ x, x ∈ en' ↔ x ∈ en ∨ x = (a, b) := by
    intro d
    induction d with
    | zero =>
      intro m i h1 h2 h3
      obtain ⟨m, rfl⟩ : ∃ k, m = k + 1 := ⟨m - 1, by omega⟩
      refine ⟨c0 (ca (ca C 6 (upd (C.2.1 6) en.length a)) 7 (upd (C.2.1 7) en.length b)) 23 (nI (en.length + 1)), en ++ [(a, b)], ?_, ((EqX.rf.sa (Or.inl rfl)).sa (Or.inr rfl)).sc (by omega), fun k hk => by rw [c0_1, up_n _ _ hk]; rfl, ⟨?_, ?_, fun i x hx => ?_⟩, by simp, fun x => by simp⟩
      · rw [wt_end N m g2 (nI_le (by omega) (by omega))]
        refine wt_44 N g2 (by rw [← nI_200]; exact nI_ge hlen (by decide)) gr_32_0 (si_33 hlen) gr_32_1 (A1 := hp X (ca C 6 (upd (C.2.1 6) en.length a)) M T) ?_ (si_34 hlen) ?_ ?_
        · rw [gi_32_2]; exact congrArg some e1
        · rw [gi_32_2]; exact congrArg some e1
        · rw [pi_32_2, nI_1]; rfl
      · rw [c0_1, up_s]; simp
      · simp; omega
      · have k6 : (c0 (ca (ca C 6 (upd (C.2.1 6) en.length a)) 7 (upd (C.2.1 7) en.length b)) 23 (nI (en.length + 1))).2.1 6 = upd (C.2.1 6) en.length a := by rw [c0_2, ca_21, up_n _ _ (by decide), ca_21, up_s]
        have k7 : (c0 (ca (ca C 6 (upd (C.2.1 6) en.length a)) 7 (upd (C.2.1 7) en.length b)) 23 (nI (en.length + 1))).2.1 7 = upd (C.2.1 7) en.length b := by rw [c0_2, ca_21, up_s]
        rw [k6, k7]
        rcases ap_some hx with ⟨hx, hi⟩ | ⟨rfl, rfl⟩
        · rw [pk_un (by omega), pk_un (by omega)]; exact e3 i x hx
        · rw [pk_us, pk_us]; exact ⟨rfl, rfl⟩
    | succ d ih =>
      intro m i h1 h2 h3
      obtain ⟨m, rfl⟩ : ∃ k, m = k + 1 := ⟨m - 1, by omega⟩
      obtain ⟨x, hx⟩ := at_ex en (show i < en.length by omega)
      obtain ⟨x1, x2⟩ := e3 i x hx
      have hlt : ¬ nI en.length ≤ nI i := nI_ge (by omega) (by omega)
      have h200 : ¬ (200 : Int32) ≤ nI i := by rw [← nI_200]; exact nI_ge (by omega) (by decide)
      have a6 : aI (hp X C M T) (some 33) 0 (nI i) = some x.1 := by rw [ai_33 (by omega), x1]
      have a7 : aI (hp X C M T) (some 34) 0 (nI i) = some x.2 := by rw [ai_34 (by omega), x2]
      by_cases q1 : x.1 = a
      · by_cases q2 : x.2 = b
        · have hxe : x = (a, b) := Prod.ext q1 q2
          refine ⟨C, en, wt_hit N m g2 hlt h200 gr_32_0 a6 q1 gr_32_1 a7 q2, EqX.rf, fun _ _ => rfl, ⟨e1, e2, e3⟩, by omega, fun y => ⟨Or.inl, fun z => ?_⟩⟩
          rcases z with z | z
          · exact z
          · rw [z, ← hxe]; exact List.mem_of_getElem? hx
        · obtain ⟨C', en', g1, g3⟩ := ih m (i + 1) (by omega) (by omega) (fun j y hj hy => by
            by_cases q : j = i
            · subst q; rw [hx] at hy; cases hy; intro z; rw [z] at q2; exact q2 rfl
            · exact h3 j y (by omega) hy)
          refine ⟨C', en', ?_, g3⟩
          rw [wt_n2 N m g2 hlt h200 gr_32_0 a6 q1 gr_32_1 a7 q2, nI_1]; exact g1
      · obtain ⟨C', en', g1, g3⟩ := ih m (i + 1) (by omega) (by omega) (fun j y hj hy => by
          by_cases q : j = i
          · subst q; rw [hx] at hy; cases hy; intro z; rw [z] at q1; exact q1 rfl
          · exact h3 j y (by omega) hy)
        refine ⟨C', en', ?_, g3⟩
        rw [wt_n1 N m g2 hlt h200 gr_32_0 a6 q1, nI_1]; exact g1
  obtain ⟨C', en', g1, g3⟩ := lp en.length N 0 (by omega) (by omega) (fun j x hj => by omega)
  rw [nI_0] at g1
  refine ⟨C', en', ?_, g3⟩
  unfold f_X4_want b_X4_want
  rw [io_32, if_pos rfl]
  exact g1
/-- the MEND: the first of the fewest that do -/
def mdF (ok : CH → Bool) (L : Nat) : Option CH := (List.range 4).findSome? fun k => (allC L k 0 []).find? ok
theorem allC_ok {L k : Nat} (hL : L ≤ 12) (hk : k < 4) {c : CH} (hc : c ∈ allC L k 0 []) : okE L k c = true := by
  have := chk_all L (by omega) k hk
  unfold chk at this
  split at this
  · simp only [Bool.and_eq_true] at this
    exact chn_all this.2 c hc
  · rw [beq_iff_eq] at this
    rw [this] at hc; cases hc
theorem k_fewest (N : Nat) (hN : 201 ≤ N) {how L : Nat} {lt : Int32} {en : List (Int32 × Int32)} (hh : how < 4) (hL : L ≤ 12) (h24 : C.1 24 = nI how) (h25 : C.1 25 = nI L) (h26 : C.1 26 = lt) (he : EnL C en) (hb : ∀ x ∈ en, ∀ j, L ≤ j → j < 32 → bt x.1 j = false) :
    (mdF (okEn how L lt en) L = none → ∃ a b, f_X4_fewest N (hp X C M T) (some 32) = some (-1, hp X (s2 C a b) M T)) ∧ ∀ c, mdF (okEn how L lt en) L = some c → f_X4_fewest N (hp X C M T) (some 32) = some (nI c.length, hp X (sB C c) M T) := by
  have st : ∀ (k : Nat) (a b : Int32), k < 4 → F_X4_finds N 8 (hp X (s2 (s2 C a b) 0 0) M T) (some 32) (nI k) 0 = some (b01 (((allC L k 0 []).find? (okEn how L lt en)).isSome), hp X (sB C (((allC L k 0 []).find? (okEn how L lt en)).getD [])) M T) := fun k a b hk => by
    have := k_finds (X := X) (M := M) (T := T) N hN hh hL h24 h25 h26 he hb k 8 0 [] (by omega) (by simp) (fun c hc => by cases hc) (by omega) (by omega)
    have e : s2 (s2 C a b) 0 0 = sB C [] := by
      unfold s2
      show c0 (c0 (s2 C a b) 27 0) 28 0 = _
      rw [s2_27, s2_28]; rfl
    rw [e, ← nI_0]
    exact this
  have w : ∀ (a b : Int32), pF (hp X (s2 C a b) M T) (some 32) 4 6 (LI 0) = some (hp X (s2 C 0 b) M T) ∧ pF (hp X (s2 C 0 b) M T) (some 32) 4 7 (LI 0) = some (hp X (s2 C 0 0) M T) := fun a b => ⟨by rw [pi_32_6, s2_27], by rw [pi_32_7, s2_28]⟩
  have e0 : ∀ (a b : Int32), s2 (s2 C a b) 0 0 = s2 C 0 0 := fun a b => by
    show c0 (c0 (s2 C a b) 27 0) 28 0 = _
    rw [s2_27, s2_28]
  have lp : ∀ (d m k : Nat) (a b : Int32), 4 = k + d → d < m → ((List.range' k (4 - k)).findSome? (fun k => (allC L k 0 []).find? (okEn how L lt en)) = none → ∃ a' b', l_X4_fewest_2 N m (hp X (s2 C a b) M T) (some 32) (nI k) = some (-1, hp X (s2 C a' b') M T)) ∧ ∀ c, (List.range' k (4 - k)).findSome? (fun k => (allC L k 0 []).find? (okEn how L lt en)) = some c → l_X4_fewest_2 N m (hp X (s2 C a b) M T) (some 32) (nI k) = some (nI c.length, hp X (sB C c) M T) := by
    intro d
    induction d with
    | zero =>
      intro m k a b h1 h2
      obtain ⟨m, rfl⟩ : ∃ j, m = j + 1 := ⟨m - 1, by omega⟩
      rw [show 4 - k = 0 by omega]
      refine ⟨fun _ => ⟨a, b, fw_end N m (by rw [← nI_3]; exact nI_lt (by omega) (by omega))⟩, fun c hc => by simp at hc⟩
    | succ d ih =>
      intro m k a b h1 h2
      obtain ⟨m, rfl⟩ : ∃ j, m = j + 1 := ⟨m - 1, by omega⟩
      rw [show 4 - k = (4 - (k + 1)) + 1 by omega, List.range'_succ, List.findSome?_cons]
      have hlt : ¬ (3 : Int32) < nI k := by rw [← nI_3]; exact nI_nlt (by omega) (by decide)
      have sk := st k a b (by omega)
      rw [e0] at sk
      cases hq : (allC L k 0 []).find? (okEn how L lt en) with
      | some c =>
        rw [hq] at sk
        refine ⟨fun z => (nomatch z), fun c' hc' => ?_⟩
        cases hc'
        have hlen := (okE_p (allC_ok hL (by omega) (List.mem_of_find?_eq_some hq))).1
        rw [hlen]
        exact fw_hit N m hlt (w a b).1 (w a b).2 sk
      | none =>
        rw [hq] at sk
        have e1 : sB C [] = s2 C 0 0 := rfl
        have ih' := ih m (k + 1) 0 0 (by omega) (by omega)
        have go := fw_go N m hlt (w a b).1 (w a b).2 sk
        rw [nI_1] at go
        show (List.findSome? _ _ = none → _) ∧ ∀ c, List.findSome? _ _ = some c → _
        rw [go]
        exact ih'
  have hC : s2 C (C.1 27) (C.1 28) = C := by
    unfold s2
    rw [c0_id]
    exact c0_id 28
  have l0 := lp 4 N 0 (C.1 27) (C.1 28) rfl (by omega)
  rw [hC, nI_0, ← List.range_eq_range'] at l0
  unfold mdF f_X4_fewest b_X4_fewest
  rw [io_32, if_pos rfl]
  exact l0
end KMD
