/-! RULES put into a slot; apply: the call -/
section OAQ
variable {X : XS} {C : CS} {M : MS} {T : TS} {S : SG} {K : Nat} {mu : List Nat}
/-- what becomes of the MEND when other RULES come into slot s -/
def mput (S : SG) (s : Nat) : Option (Nat × CH × Bool) := match s_mend S with
  | none => none
  | some m => some (m.1, m.2.1, if m.1 = s then false else m.2.2)
theorem RIM.sm {r : Nat → Option Nat} {md : Option Nat} {S' : SG} (h : RIM mu T S r md) (h1 : s_img S' = s_img S) (h2 : s_mend S' = s_mend S) : RIM mu T S' r md := by
  unfold RIM at h ⊢
  rw [h1, h2]; exact h
theorem k_putR {s qn : Nat} {r : RSV} (hs : s < 4) (hW : ∀ m, s_mend S = some m → m.1 < 4) (hR : RIM mu T S (C.2.2 2) (C.2.2 3 0)) (hn : isRl mu T qn r) (hq : 62 ≤ qn) : ∃ T', f_X10_putRules (hp X C M T) (some 8) (nI s) (some qn) = some (hp X (cr C 1 (va_up (C.2.2 1) s (some qn))) M T') ∧ T'.1 = T.1 ∧ T'.2.1 = T.2.1 ∧ Ex mu T mu T' ∧ (∀ p, 8 + T.1 ≤ p → T'.2.2 p = T.2.2 p) ∧ RIM mu T' (n_mend S (mput S s)) (C.2.2 2) (C.2.2 3 0) := by
  have e1 := isIn_n hs (show 4 < 2 ^ 31 by decide)
  rw [nI_4] at e1
  obtain ⟨fs, hcell⟩ : ∃ fs, gc (hp X C M T) qn = .inr (3, fs) := by
    obtain ⟨z0, ql, qo, fl, fo, z1, z2, z3, -⟩ := hn
    exact ⟨_, z0.gc.trans z3⟩
  have s1 : sR (hp X C M T) (some 25) 4 3 (nI s) (some qn) = some (hp X (cr C 1 (va_up (C.2.2 1) s (some qn))) M T) := by
    rw [sR_at gc_25 hs (by decide) (by decide) hcell (by omega), sc_25]
  have g6 : gR (hp X (cr C 1 (va_up (C.2.2 1) s (some qn))) M T) (some 8) 10 6 = some (C.2.2 3 0) := by
    rw [gr_8_6, cr_22, up_n _ _ (by decide)]
  have hR0 := hR
  obtain ⟨o0, o1, o2, om, f1, f2, f3, f4, f5⟩ := hR
  cases hm : s_mend S with
  | none =>
    rw [hm] at f5
    rw [f5.1] at g6
    refine ⟨T, pu_n io_8 e1 gr_8_2 gr_18_3 s1 g6, rfl, rfl, Ex.rf, fun _ _ => rfl, hR0.sm rfl ?_⟩
    show mput S s = s_mend S
    unfold mput; rw [hm]
  | some m =>
    rw [hm] at f5
    obtain ⟨qm, g1, g2, g3⟩ := f5
    rw [g1] at g6
    have hqm : qm ∈ mu := by rw [f1, g2]; simp
    obtain ⟨h59, h8⟩ := f3 qm hqm
    unfold isMd at g3
    rw [gD_hi h59] at g3
    have hm4 := hW m hm
    by_cases hsm : m.1 = s
    · have pz := pZ_hp (X := X) (C := cr C 1 (va_up (C.2.2 1) s (some qn))) (M := M) (T := T) (k := 3) (x := 0) h59 g3 (by simp) (Or.inl rfl)
      have hw : Wr [qm] T (sT T qm (.inr (1, [LI (nI m.1), LI (nI (bitsOf m.2.1 0)), LI (nI (bitsOf m.2.1 1)), LI 0]))) := Wr.rf.st (by simp)
      have ex := hw.ex (mu := mu) (fun p hp' => by simp at hp'; rw [hp']; exact hqm)
      refine ⟨_, pu_s io_8 e1 gr_8_2 gr_18_3 s1 g6 ((gI_hp h59 g3 rfl).trans (by rw [hsm])) rfl pz, rfl, rfl, ex, fun p hp' => sT_n (by omega), ?_⟩
      have hnd := f2
      rw [f1] at hnd
      obtain ⟨j0, j1, j2, jm⟩ := dj4 hnd
      have hjm := jm qm (by rw [g2]; simp)
      refine ⟨o0, o1, o2, om, f1, f2, f3, fun j o hj => ?_, ?_⟩
      · have h3 := f4 j o hj
        have hno : qm ∉ o := by
          have hj3 := at_lt hj
          rcases (show j = 0 ∨ j = 1 ∨ j = 2 by simp at hj3; omega) with rfl | rfl | rfl
          · cases hj; exact hjm.1
          · cases hj; exact hjm.2.1
          · cases hj; exact hjm.2.2
        show match s_img S j with
          | none => C.2.2 2 j = none ∧ o = []
          | some t => ∃ q, C.2.2 2 j = some q ∧ isTo mu _ q t o
        cases hsi : s_img S j with
        | none => rw [hsi] at h3; exact h3
        | some t' =>
          rw [hsi] at h3
          obtain ⟨q', h4, h5⟩ := h3
          exact ⟨q', h4, h5.ex ex (fun p hp' => hw.gd (fun z => by simp at z; rw [z] at hp'; exact hno hp'))⟩
      · show match mput S s with
          | none => C.2.2 3 0 = none ∧ om = []
          | some m => ∃ q, C.2.2 3 0 = some q ∧ om = [q] ∧ isMd _ q m
        unfold mput
        rw [hm]
        refine ⟨qm, g1, g2, ?_⟩
        unfold isMd
        rw [gD_hi h59, sT_s]
        show _ = Sum.inr (1, [LI (nI m.1), LI (nI (bitsOf m.2.1 0)), LI (nI (bitsOf m.2.1 1)), LI (cond (if m.1 = s then false else m.2.2) 1 0)])
        rw [if_pos hsm]; rfl
    · refine ⟨T, pu_o io_8 e1 gr_8_2 gr_18_3 s1 g6 (gI_hp h59 g3 rfl) (ne_nI hsm (by omega) (by omega)), rfl, rfl, Ex.rf, fun _ _ => rfl, hR0.sm rfl ?_⟩
      show mput S s = s_mend S
      unfold mput; rw [hm]
      show some (m.1, m.2.1, if m.1 = s then false else m.2.2) = some m
      rw [if_neg hsm]
section AQA
variable {A A1 A2 : LH} {q x y r rn : Option Nat} {a b s l t n : Int32}
theorem aa_n (N : Nat) (h0 : isO A q 10 = true) (h1 : gR A q 10 6 = some none) : f_X10_apply N A q = some (-1, A) := by
  unfold f_X10_apply b_X10_apply
  (repeat (first | with_reducible rfl | refine (bnd_eq (by first | with_reducible assumption)).trans ?_ | refine (if_pos (by first | with_reducible assumption | with_reducible rfl | decide | (dsimp only; first | with_reducible assumption | with_reducible rfl | decide))).trans ?_ | refine (if_neg (by first | with_reducible assumption | decide | (dsimp only; first | with_reducible assumption | decide))).trans ?_))
theorem aa_f (N : Nat) {mm : Nat} (h0 : isO A q 10 = true) (h1 : gR A q 10 6 = some (some mm)) (h2 : gI A (some mm) 1 3 = some 0) : f_X10_apply N A q = some (-1, A) := by
  have hne : ¬ some mm = none := fun z => nomatch z
  unfold f_X10_apply b_X10_apply
  (repeat (first | with_reducible rfl | refine (bnd_eq (by first | with_reducible assumption)).trans ?_ | refine (if_pos (by first | with_reducible assumption | with_reducible rfl | decide | (dsimp only; first | with_reducible assumption | with_reducible rfl | decide))).trans ?_ | refine (if_neg (by first | with_reducible assumption | decide | (dsimp only; first | with_reducible assumption | decide))).trans ?_))
theorem aa_t (N : Nat) {mm : Nat} (h0 : isO A q 10 = true) (h1 : gR A q 10 6 = some (some mm)) (h2 : gI A (some mm) 1 3 = some 1) (h3 : gI A (some mm) 1 0 = some s) (h4 : f_X10_rulesIn A q s = some r) (h5 : ¬ r = none) (h6 : gI A (some mm) 1 1 = some l) (h7 : gI A (some mm) 1 2 = some t) (h8 : f_X3_changed N A r l t = some (rn, A1)) (h9 : gR A1 q 10 6 = some (some mm)) (h10 : gI A1 (some mm) 1 0 = some s) (h11 : f_X10_putRules A1 q s rn = some A2) (h12 : gR A2 rn 3 1 = some x) (h13 : ln6 A2 x = some n) : f_X10_apply N A q = some (n, A2) := by
  have hne : ¬ some mm = none := fun z => nomatch z
  unfold f_X10_apply b_X10_apply
  (repeat (first | with_reducible rfl | refine (bnd_eq (by first | with_reducible assumption)).trans ?_ | refine (if_pos (by first | with_reducible assumption | with_reducible rfl | decide | (dsimp only; first | with_reducible assumption | with_reducible rfl | decide))).trans ?_ | refine (if_neg (by first | with_reducible assumption | decide | (dsimp only; first | with_reducible assumption | decide))).trans ?_))
end AQA
/-- other RULES in slot s -/
def n_rules (S : SG) (s : Nat) (r : RSV) (f : Int32 × Int32) (tp : List Nat) : SG := (tp, (t_ppl (s_told S), t_thg (s_told S), t_bk (s_told S), fun j => if j = s then r else t_sl (s_told S) j), s_img S, f, mput S s)
theorem WS_rules {s : Nat} {r : RSV} {f : Int32 × Int32} {tp : List Nat} (hs : s < 4) (hW : WS S) (wr : WRs r) (h1 : tp.length ≤ 600) (h2 : ∀ x ∈ tp, x < 256) : WS (n_rules S s r f tp) := by
  obtain ⟨w1, w2, w3, w5, w6⟩ := hW
  refine ⟨h1, h2, ⟨w3.1, fun i hi => ?_⟩, w5, fun m hm => ?_⟩
  · show WRs (if i = s then r else t_sl (s_told S) i)
    split
    · exact wr
    · exact w3.2 i hi
  · have hm' : mput S s = some m := hm
    unfold mput at hm'
    cases h0 : s_mend S with
    | none => rw [h0] at hm'; cases hm'
    | some m0 =>
      rw [h0] at hm'
      cases hm'
      obtain ⟨k1, k2, k3, k4, k5⟩ := w6 m0 h0
      refine ⟨k1, k2, k3, k4, fun z => ?_⟩
      show ∀ c ∈ m0.2.1, c.1 < (if m0.1 = s then r else t_sl (s_told S) m0.1).2.length
      have z' : (if m0.1 = s then false else m0.2.2) = true := z
      split at z'
      · cases z'
      · rename_i hne
        rw [if_neg hne]
        exact k5 z'
theorem RSl.put {sl : Nat → RSV} {rr : Nat → Option Nat} {s qn : Nat} {r : RSV} (h : RSl mu T sl rr) (hn : isRl mu T qn r) : RSl mu T (fun j => if j = s then r else sl j) (va_up rr s (some qn)) := fun i hi => by
  by_cases e : i = s
  · subst e
    refine ⟨qn, vu_s, ?_⟩
    show isRl mu T qn (if i = i then r else sl i)
    rw [if_pos rfl]; exact hn
  · show ∃ q, va_up rr s (some qn) i = some q ∧ isRl mu T q (if i = s then r else sl i)
    rw [vu_n e, if_neg e]; exact h i hi
/-- the reference, when other RULES are in slot s and it is told anew -/
theorem RM_rules {s : Nat} {r : RSV} {M' : MS} {n : Nat} (hs : s < 4) (hW : WS S) (hM : RM S K M) (hn : M.1 36 = nI n) (hnK : n ≤ K) (hK : K < 1000)
    (k : ∀ j, j ≠ 0 → j ≠ 36 → j ≠ 2 → j < 18 ∨ 35 < j → M'.1 j = M.1 j) (k36 : M'.1 36 = nI (n + 1)) (hA : ∀ j, 0 < j → Agr j M.2.2 M'.2.2) (hT : MTab (s_told S) 0 M'.2.2) (h37 : M'.2.2 37 = upd (M.2.2 37) s (nI (n + 1))) (h45 : M'.2.2 45 = M.2.2 45) (h46 : M'.2.2 46 = M.2.2 46) (h49 : M'.2.2 49 = M.2.2 49) {tp : List Nat} (htp : MTape tp (M'.1 2) (M'.2.2 1)) (hsl : ∀ i, i < 4 → MRs M' i (if i = s then r else t_sl (s_told S) i)) : RM (n_rules S s r (M'.1 24, M'.1 25) tp) (K + 1) M' := by
  obtain ⟨m1, m2, m3, m4, m5, m6, m7⟩ := hM
  obtain ⟨w1, w2, w3, w5, w6⟩ := hW
  obtain ⟨n', t1, t2, t3, t4⟩ := m6
  have hnn : n' = n := (nI_eq (by omega) (by omega)).mp (t2.symm.trans hn)
  subst hnn
  refine ⟨htp, hT, fun i hi => ?_, rfl, ?_, ?_, ?_⟩
  · have := hsl i hi
    unfold MRs at this
    rw [Nat.mul_zero, Nat.zero_add]
    exact this
  · show match mput S s with
      | none => M'.1 41 = 0
      | some m => M'.1 41 = 1 ∧ M'.1 42 = nI m.1 ∧ M'.1 44 = nI m.2.1.length ∧ (m.2.2 = true ↔ M'.2.2 37 m.1 = M'.1 43) ∧ ∀ (i : Nat) (c : Nat × Nat), m.2.1[i]? = some c → M'.2.2 45 i = nI c.1 ∧ M'.2.2 46 i = nI c.2
    unfold MMd at m5
    unfold mput
    rw [k 41 (by decide) (by decide) (by decide) (by omega), k 42 (by decide) (by decide) (by decide) (by omega), k 43 (by decide) (by decide) (by decide) (by omega), k 44 (by decide) (by decide) (by decide) (by omega), h37, h45, h46]
    cases hm : s_mend S with
    | none => rw [hm] at m5; exact m5
    | some m =>
      rw [hm] at m5
      obtain ⟨a1, a2, a3, a4, a5⟩ := m5
      obtain ⟨tt, b1, b2⟩ := t4 (by rw [hm]; exact fun z => nomatch z)
      refine ⟨a1, a2, a3, ?_, a5⟩
      show (if m.1 = s then false else m.2.2) = true ↔ upd (M.2.2 37) s (nI (n' + 1)) m.1 = M.1 43
      by_cases e : m.1 = s
      · rw [if_pos e, e, pk_us, b2]
        refine ⟨fun z => (nomatch z), fun z => ?_⟩
        have := (nI_eq (a := n' + 1) (b := tt) (by omega) (by omega)).mp z
        omega
      · rw [if_neg e, pk_un e]; exact a4
  · refine ⟨n' + 1, by omega, k36, fun i hi => ?_, fun z => ?_⟩
    · rw [h37]
      by_cases e : i = s
      · subst e; exact ⟨n' + 1, Nat.le_refl _, pk_us⟩
      · obtain ⟨tt, b1, b2⟩ := t3 i hi
        exact ⟨tt, by omega, (pk_un e).trans b2⟩
    · have hz : s_mend S ≠ none := fun h0 => z (by show mput S s = none; unfold mput; rw [h0])
      obtain ⟨tt, b1, b2⟩ := t4 hz
      exact ⟨tt, by omega, (k 43 (by decide) (by decide) (by decide) (by omega)).trans b2⟩
  · exact MIm.agr (S := S) (S' := n_rules S s r (M'.1 24, M'.1 25) tp) m7 w5 rfl h49 hA
theorem MRs.ag {M' : MS} {i : Nat} {r : RSV} (h : MRs M i r) (wr : WRs r) (h13 : M'.2.2 13 i = M.2.2 13 i) (h14 : M'.2.2 14 i = M.2.2 14 i) (h15 : ∀ p, p < 96 → M'.2.2 15 (96 * i + p) = M.2.2 15 (96 * i + p)) (h16 : ∀ p, p < 900 → M'.2.2 16 (900 * i + p) = M.2.2 16 (900 * i + p) ∧ M'.2.2 17 (900 * i + p) = M.2.2 17 (900 * i + p)) : MRs M' i r := by
  obtain ⟨h1, h2, h3⟩ := h
  refine ⟨h13.trans h1, h14.trans h2, fun k l hl => ?_⟩
  have hk := at_lt hl
  have hk12 := wr.2.1
  obtain ⟨g1, g2, g3, g4, g5, g6, g7⟩ := h3 k l hl
  have e15 : ∀ c, c < 7 → M'.2.2 15 (96 * i + (8 * k + c)) = M.2.2 15 (96 * i + (8 * k + c)) := fun c hc => h15 _ (by omega)
  refine ⟨(e15 0 (by omega)).trans g1, (e15 1 (by omega)).trans g2, (e15 2 (by omega)).trans g3, (e15 3 (by omega)).trans g4, (e15 4 (by omega)).trans g5, (e15 5 (by omega)).trans g6, ?_⟩
  rcases g7 with ⟨g7, g8⟩ | ⟨g7, off, g8, g9, g10⟩
  · exact Or.inl ⟨g7, (e15 6 (by omega)).trans g8⟩
  · refine Or.inr ⟨g7, off, g8, (e15 6 (by omega)).trans g9, fun m x hx => ?_⟩
    have hm := at_lt hx
    obtain ⟨q1, q2⟩ := h16 (off + m) (by omega)
    rw [q1, q2]; exact g10 m x hx
theorem op_apply (N : Nat) (hN : 4000 ≤ N) (hK : K < 1000) (h : INV S C M T K) : ∃ r S' C' M' T', f_X10_apply N (hp X C M T) (some 8) = some (r, hp X C' M T') ∧ f_X11_apply N (hp X C' M T') (some 35) = some (r, hp X C' M' T') ∧ INV S' C' M' T' (K + 1) ∧ Bd T T' := by
  have hz := h.z
  obtain ⟨hW, hC, hM⟩ := h
  obtain ⟨a1, a2, a3, a4, a5, mu, a6, a7⟩ := hC
  have wt := hW.2.2.1.1
  have ha7 := a7
  obtain ⟨o0, o1, o2, om, f1, f2, f3, f4, f5⟩ := a7
  have m5 := hM.2.2.2.2.1
  unfold MMd at m5
  cases hm : s_mend S with
  | none =>
    rw [hm] at f5 m5
    exact ⟨-1, S, C, _, T, aa_n N io_8 (gr_8_6.trans (congrArg some f5.1)), ap_no N io_35 (pi_35_0 0) (gi_35_41.trans (congrArg some m5)), hz, Bd.rf T⟩
  | some m =>
    rw [hm] at f5 m5
    obtain ⟨qm, g1, g2, g3⟩ := f5
    obtain ⟨n1, n2, n3, n4, n5⟩ := m5
    obtain ⟨k1, k2, k3, k4, k5⟩ := hW.2.2.2.2 m hm
    have hqm : qm ∈ mu := by rw [f1, g2]; simp
    obtain ⟨h59, h8⟩ := f3 qm hqm
    unfold isMd at g3
    rw [gD_hi h59] at g3
    have g6 : gR (hp X C M T) (some 8) 10 6 = some (some qm) := gr_8_6.trans (congrArg some g1)
    have p41 : gI (hp X C (m0 M 0 0) T) (some 35) 11 41 = some 1 := gi_35_41.trans (congrArg some n1)
    cases hfit : m.2.2 with
    | false =>
      rw [hfit] at g3 n4
      have hne : ¬ M.2.2 37 m.1 = M.1 43 := fun z => Bool.noConfusion (n4.mpr z)
      refine ⟨-1, S, C, m0 M 0 0, T, aa_f N io_8 g6 (gI_hp h59 g3 rfl), ?_, hz, Bd.rf T⟩
      exact ap_ne N io_35 (pi_35_0 0) p41 gr_35_37 (gi_35_42.trans (congrArg some n2)) (ai_55 (by omega)) gi_35_43 hne
    | true =>
      rw [hfit] at g3 n4
      have heq : M.2.2 37 m.1 = M.1 43 := n4.mp rfl
      obtain ⟨s, hsd⟩ : ∃ s, s = m.1 := ⟨_, rfl⟩
      obtain ⟨c, hcd⟩ : ∃ c, c = m.2.1 := ⟨_, rfl⟩
      rw [← hsd] at n2 k1 heq k5
      rw [← hcd] at n3 n5 k2 k3 k4 k5
      rw [← hsd, ← hcd] at g3
      have hcl := k5 hfit
      obtain ⟨q, hq, hr⟩ := k_rin (X := X) (M := M) a6 k1
      have wr := hW.2.2.1.2 s k1
      have w12 := wr.2.1
      obtain ⟨R, hRd⟩ : ∃ R, R = t_sl (s_told S) s := ⟨_, rfl⟩
      rw [← hRd] at hr wr w12 hcl
      have mr : MRs M s R := hRd ▸ MRs.of hM.2.2.1 k1
      have hmu : ∀ x ∈ mu, x < 8 + T.1 := fun x hx => (f3 x hx).2
      obtain ⟨T1, qn, c1, c2, c3, c4, c5, c6, c7, c8, c9⟩ := k_changed (X := X) (C := C) (M := M) N (by omega) a4 hmu a5 wr hr (fun x hx => ⟨hcl x hx, (k3 x hx).2⟩) k4
      have hgr : Gr T T1 := ⟨c5, c7⟩
      have ex1 : Ex mu T mu T1 := hgr.ex a4
      have ha7' : RIM mu T1 S (C.2.2 2) (C.2.2 3 0) := by
        refine ⟨o0, o1, o2, om, f1, f2, fun p hp' => ⟨(f3 p hp').1, c9 p hp'⟩, fun j o hj => ?_, ?_⟩
        · have h3 := f4 j o hj
          have hin : ∀ p, p ∈ o → p ∈ mu := fun p hp' => by
            have hj3 := at_lt hj
            rw [f1]
            rcases (show j = 0 ∨ j = 1 ∨ j = 2 by simp at hj3; omega) with rfl | rfl | rfl <;> (cases hj; simp [hp'])
          cases hsi : s_img S j with
          | none => rw [hsi] at h3; exact h3
          | some t' =>
            rw [hsi] at h3
            obtain ⟨q', h4, h5⟩ := h3
            exact ⟨q', h4, h5.ex ex1 (fun p hp' => hgr.gD (hmu p (hin p hp')))⟩
        · rw [hm]
          refine ⟨qm, g1, g2, ?_⟩
          unfold isMd
          rw [gD_hi h59, c7 qm (by omega), g3, ← hsd, ← hcd, hfit]
      obtain ⟨T2, d1, d2, d3, d4, d5, d6⟩ := k_putR (X := X) (C := C) (M := M) (S := S) k1 (fun m' hm' => by rw [hm] at hm'; cases hm'; rw [← hsd]; exact k1) ha7' c2 c3
      have c2' : isRl mu T2 qn (R.1, clsL c 0 R.2) := c2.ex d4
      obtain ⟨ql', l1, l2, -⟩ := rl_ln (X := X) (C := cr C 1 (va_up (C.2.2 1) s (some qn))) (M := M) c2'
      have hap : apC c R.2 = clsL c 0 R.2 := by
        have := apC_cls R.2 0 c k4 (fun x hx => ⟨by omega, (k3 x hx).2⟩)
        rw [← this]; rfl
      have cl := aa_t N io_8 g6 (gI_hp h59 g3 rfl) (gI_hp h59 g3 rfl) hq (s_ne q) (gI_hp h59 g3 rfl) (gI_hp h59 g3 rfl) c1 (gr_8_6.trans (congrArg some g1)) (gI_hp h59 ((c7 qm (by omega)).trans g3) rfl) d1 l1 l2
      -- the reference
      have hlm : ∀ l ∈ R.2, l.1 < 2 := fun l hl => (wr.2.2 l hl).1
      obtain ⟨M2, m', r1, r2, r3, r4⟩ := m_applyL (X := X) (C := cr C 1 (va_up (C.2.2 1) s (some qn))) (T := T2) (M := m0 M 0 0) (c := c) (ls := R.2) N (by omega) k1 rfl w12 hlm k4 (fun x hx => ⟨hcl x hx, (k3 x hx).2⟩) k2 n2 n5 c.length N (m0 M 0 0) (Nat.le_refl _) (by omega) EqP.rf (by rw [List.drop_eq_nil_of_le (Nat.le_refl _)]; exact mr.2.1) (by rw [List.drop_eq_nil_of_le (Nat.le_refl _)]; exact mr.2.2)
      obtain ⟨nn, t1, t2, t3, t4⟩ := hM.2.2.2.2.2.1
      have e36 : M2.1 36 = nI nn := (congrFun r2.1 36).trans t2
      obtain ⟨M3, hM3⟩ : ∃ M3, M3 = ma (m0 M2 36 (nI (nn + 1))) 37 (upd (M2.2.2 37) s (nI (nn + 1))) := ⟨_, rfl⟩
      have fin := aq_end N m' (show nI 0 - 1 < 0 by decide) (A := hp X (cr C 1 (va_up (C.2.2 1) s (some qn))) M2 T2) (q := some 35) (gi_35_36.trans (congrArg some e36)) (by rw [nI_1]; exact pi_35_36 _) gr_35_37 (s := nI s) (by rw [gi_35_42]; exact congrArg some ((congrFun r2.1 42).trans n2)) gi_35_36 (A2 := hp X (cr C 1 (va_up (C.2.2 1) s (some qn))) M3 T2) (by rw [hM3, si_55 (by omega)]; rfl) gr_35_14 (by rw [gi_35_42, hM3]; exact congrArg some ((congrFun r2.1 42).trans n2)) (c := nI (apC c R.2).length) (by rw [ai_48 (by omega), hM3, ma_n _ _ (by decide)]; exact congrArg some r3)
      have rf := ap_go N (io_35 (X := X) (C := cr C 1 (va_up (C.2.2 1) s (some qn))) (M := M) (T := T2)) (pi_35_0 0) (gi_35_41.trans (congrArg some n1)) gr_35_37 (gi_35_42.trans (congrArg some n2)) ((ai_55 (by omega)).trans (congrArg some heq)) gi_35_43 rfl (gi_35_44.trans (congrArg some n3)) (r1.trans fin)
      have hlen : (clsL c 0 R.2).length ≤ 12 := by have := clsL_len c R.2 0; omega
      have hwl : ∀ (l : List LNV) (i : Nat), (∀ x ∈ l, WLn x) → ∀ x ∈ clsL c i l, WLn x := by
        intro l
        induction l with
        | nil => intro i _ x hx; cases hx
        | cons y l ih =>
          intro i hh x hx
          have e : clsL c i (y :: l) = if cb c i 0 then clsL c (i + 1) l else (if cb c i 1 then turnL y else y) :: clsL c (i + 1) l := rfl
          rw [e] at hx
          have hy := hh y List.mem_cons_self
          have hl := ih (i + 1) (fun z hz => hh z (List.mem_cons_of_mem _ hz))
          split at hx
          · exact hl x hx
          · rcases List.mem_cons.mp hx with rfl | hx
            · split
              · obtain ⟨y1, y2⟩ := hy
                exact ⟨show 1 - y.1 < 2 by omega, y2⟩
              · exact hy
            · exact hl x hx
      have wrn : WRs (R.1, clsL c 0 R.2) := ⟨wr.1, hlen, hwl R.2 0 wr.2.2⟩
      have hmt : MTape (s_tape S) (M3.1 2) (M3.2.2 1) := by
        have : M3.1 2 = M.1 2 := by subst hM3; exact congrFun r2.1 2
        have h2 : M3.2.2 1 = M.2.2 1 := by subst hM3; rw [ma_n _ _ (by decide)]; exact r2.2.1 1 (by decide) (by decide)
        rw [this, h2]; exact hM.1
      have kk : ∀ j, j ≠ 0 → j ≠ 36 → M3.1 j = M.1 j := fun j j0 j1 => by
        subst hM3
        show (m0 M2 36 _).1 j = _
        rw [m0_1, up_n _ _ j1, r2.1, m0_1, up_n _ _ j0]
      have bb : ∀ a, a ≠ 14 → a ≠ 15 → a ≠ 37 → M3.2.2 a = M.2.2 a := fun a j0 j1 j2 => by
        subst hM3
        rw [ma_n _ _ j2]; exact r2.2.1 a j0 j1
      have b14 : M3.2.2 14 = M2.2.2 14 ∧ M3.2.2 15 = M2.2.2 15 := by subst hM3; exact ⟨by rw [ma_n _ _ (by decide)]; rfl, by rw [ma_n _ _ (by decide)]; rfl⟩
      have hA : ∀ j, 0 < j → Agr j M.2.2 M3.2.2 := fun j hj a i hi => by
        by_cases e37 : a = 37
        · subst e37; exact absurd hi (Nat.not_lt_zero _)
        · by_cases e14 : a = 14
          · subst e14
            rw [b14.1]
            have hs4 : szA 14 = 4 := rfl
            rw [hs4] at hi ⊢
            exact r2.2.2.1 _ (by omega)
          · by_cases e15 : a = 15
            · subst e15
              rw [b14.2]
              have hs4 : szA 15 = 384 := rfl
              rw [hs4] at hi ⊢
              exact r2.2.2.2 _ (by omega)
            · rw [bb a e14 e15 e37]
      have rmr := RM_rules (S := S) (K := K) (M := M) (M' := M3) (s := s) (r := (R.1, clsL c 0 R.2)) (n := nn) k1 hW hM t2 t1 hK (fun j j0 j1 _ _ => kk j j0 j1) (by subst hM3; rfl) hA (by
          obtain ⟨q1, q2, q3, q4, q5, q6⟩ := hM.2.1
          unfold MTab
          rw [bb 3 (by decide) (by decide) (by decide), bb 4 (by decide) (by decide) (by decide), bb 5 (by decide) (by decide) (by decide), bb 6 (by decide) (by decide) (by decide), bb 7 (by decide) (by decide) (by decide), bb 8 (by decide) (by decide) (by decide), bb 9 (by decide) (by decide) (by decide), bb 10 (by decide) (by decide) (by decide), bb 11 (by decide) (by decide) (by decide), bb 12 (by decide) (by decide) (by decide)]
          exact ⟨q1, q2, q3, q4, q5, q6⟩) (by subst hM3; rw [ma_s]; rw [r2.2.1 37 (by decide) (by decide)]; rfl) (bb 45 (by decide) (by decide) (by decide)) (bb 46 (by decide) (by decide) (by decide)) (bb 49 (by decide) (by decide) (by decide)) hmt (fun i hi => by
          by_cases e : i = s
          · subst e
            rw [if_pos rfl, ← hap]
            refine ⟨?_, ?_, ?_⟩
            · rw [bb 13 (by decide) (by decide) (by decide)]; exact mr.1
            · rw [b14.1]; exact r3
            · intro k l hl
              exact (r4 k l hl).cells (fun cc _ => by rw [b14.2]) (by rw [bb 16 (by decide) (by decide) (by decide), r2.2.1 16 (by decide) (by decide)]; rfl) (by rw [bb 17 (by decide) (by decide) (by decide), r2.2.1 17 (by decide) (by decide)]; rfl)
          · rw [if_neg e]
            have mri : MRs M i (t_sl (s_told S) i) := MRs.of hM.2.2.1 hi
            refine mri.ag (hW.2.2.1.2 i hi) (by rw [bb 13 (by decide) (by decide) (by decide)]) ?_ (fun p hp' => ?_) (fun p hp' => ⟨by rw [bb 16 (by decide) (by decide) (by decide)], by rw [bb 17 (by decide) (by decide) (by decide)]⟩)
            · rw [b14.1]; exact r2.2.2.1 i e
            · rw [b14.2]; exact r2.2.2.2 _ (by omega))
      have hflt : s_flt S = (M3.1 24, M3.1 25) := by rw [kk 24 (by decide) (by decide), kk 25 (by decide) (by decide)]; exact hM.2.2.2.1
      refine ⟨nI (clsL c 0 R.2).length, n_rules S s (R.1, clsL c 0 R.2) (M3.1 24, M3.1 25) (s_tape S), cr C 1 (va_up (C.2.2 1) s (some qn)), M3, T2, cl, ?_, ⟨WS_rules k1 hW wrn hW.1 hW.2.1, ?_, rmr⟩, ?_⟩
      · rw [← hap]; exact rf
      · refine ⟨a1, a2, ?_, by omega, fun p hp' => ?_, mu, ?_, ?_⟩
        · show (M3.1 24, M3.1 25) = _
          rw [← hflt]; exact a3
        · rw [d5 p (by omega)]; exact c8 p (by omega)
        · show RSl mu T2 (fun j => if j = s then (R.1, clsL c 0 R.2) else t_sl (s_told S) j) ((cr C 1 (va_up (C.2.2 1) s (some qn))).2.2 1)
          rw [cr_22, up_s]
          exact ((a6.ex ex1).ex d4).put c2'
        · rw [cr_22, up_n _ _ (by decide), up_n _ _ (by decide)]
          exact d6.sm rfl rfl
      · exact ⟨by omega, by omega, by omega⟩
end OAQ
