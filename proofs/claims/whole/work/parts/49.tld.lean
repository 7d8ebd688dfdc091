/-! a Told copied into another -/
section TLA
variable {A A1 A2 A3 : LH} {q r x y : Option Nat} {v2 n c l l' : Int32} {p z cd cs : Option Nat}
theorem tc_ab (h0 : isO A q 5 = true) (h1 : gI A r 5 3 = some n) (h2 : gI A r 5 0 = some c) (h3 : gR A q 5 2 = some cd) (h4 : ln6 A cd = some l) (h5 : ¬ l < n * c) (h6 : gR A r 5 2 = some cs) (h7 : ln6 A cs = some l') (h8 : ¬ l' < n * c) (h9 : cpI A cs 0 cd 0 (n * c) = some A1) (h10 : gI A1 r 5 3 = some n) (h11 : pF A1 q 5 3 (LI n) = some A2) : f_X5_copyFrom A q r = some A2 := by
  unfold f_X5_copyFrom b_X5_copyFrom
  (repeat (first | with_reducible rfl | refine (bnd_eq (by first | with_reducible assumption)).trans ?_ | refine (if_pos (by first | with_reducible assumption | with_reducible rfl | decide | (dsimp only; first | with_reducible assumption | with_reducible rfl | decide))).trans ?_ | refine (if_neg (by first | with_reducible assumption | decide | (dsimp only; first | with_reducible assumption | decide))).trans ?_))
theorem cf_end (N m : Nat) (h1 : 4 ≤ v2) : l_X8_copyFrom_35 N (m + 1) A q r v2 = some A := by
  show b_X8_copyFrom_35 N _ A q r v2 = _
  unfold b_X8_copyFrom_35
  (repeat (first | with_reducible rfl | refine (bnd_eq (by first | with_reducible assumption)).trans ?_ | refine (if_pos (by first | with_reducible assumption | with_reducible rfl | decide | (dsimp only; first | with_reducible assumption | with_reducible rfl | decide))).trans ?_ | refine (if_neg (by first | with_reducible assumption | decide | (dsimp only; first | with_reducible assumption | decide))).trans ?_))
theorem cf_st (N m : Nat) (h1 : ¬ 4 ≤ v2) (h2 : gR A q 8 3 = some x) (h3 : gR A r 8 3 = some y) (h4 : aR A y 4 v2 = some z) (h5 : sR A x 4 3 v2 z = some A1) : l_X8_copyFrom_35 N (m + 1) A q r v2 = l_X8_copyFrom_35 N m A1 q r (v2 + 1) := by
  show b_X8_copyFrom_35 N _ A q r v2 = _
  unfold b_X8_copyFrom_35
  (repeat (first | with_reducible rfl | refine (bnd_eq (by first | with_reducible assumption)).trans ?_ | refine (if_pos (by first | with_reducible assumption | with_reducible rfl | decide | (dsimp only; first | with_reducible assumption | with_reducible rfl | decide))).trans ?_ | refine (if_neg (by first | with_reducible assumption | decide | (dsimp only; first | with_reducible assumption | decide))).trans ?_))
theorem cf_ab {N : Nat} {a0 a1 a2 b0 b1 b2 : Option Nat} {B : LH} (h0 : isO A q 8 = true) (h1 : gR A q 8 0 = some a0) (h2 : gR A r 8 0 = some b0) (h3 : f_X5_copyFrom A a0 b0 = some A1) (h4 : gR A1 q 8 1 = some a1) (h5 : gR A1 r 8 1 = some b1) (h6 : f_X5_copyFrom A1 a1 b1 = some A2) (h7 : gR A2 q 8 2 = some a2) (h8 : gR A2 r 8 2 = some b2) (h9 : f_X5_copyFrom A2 a2 b2 = some A3) (h10 : l_X8_copyFrom_35 N N A3 q r 0 = some B) : f_X8_copyFrom N A q r = some B := by
  unfold f_X8_copyFrom b_X8_copyFrom
  (repeat (first | with_reducible rfl | refine (bnd_eq (by first | with_reducible assumption)).trans ?_ | refine (if_pos (by first | with_reducible assumption | with_reducible rfl | decide | (dsimp only; first | with_reducible assumption | with_reducible rfl | decide))).trans ?_ | refine (if_neg (by first | with_reducible assumption | decide | (dsimp only; first | with_reducible assumption | decide))).trans ?_))
  exact h10
theorem cpI_at {q0 q1 n0 n1 k : Nat} {f g : Nat → Int32} (h0 : gc A q0 = .inl (0, n0, .inl f)) (h1 : gc A q1 = .inl (0, n1, .inl g)) (h8 : 8 ≤ q0) (h8' : 8 ≤ q1) (hk : k ≤ n0) (hk' : k ≤ n1) (hb : k < 2 ^ 31) : cpI A (some q0) 0 (some q1) 0 (nI k) = some (sc A q1 (.inl (0, n1, .inl (va_cpy f g 0 0 k)))) := by
  have e0 : (0 : Int32).toNatClampNeg = 0 := by decide
  have e1 := nI_clamp hb
  have e2 : ¬ nI k < 0 := nI_pos hb
  simp only [cpI, h0, h1, e0, e1]
  rw [if_pos ⟨⟨trivial, trivial, h8, h8'⟩, by decide, by decide, e2, by omega, by omega⟩]
/-- a Table copied into another -/
theorem tb_copy {q cols lim tl cq sz q' cq' sz' : Nat} {f f' : Nat → Int32} (hd : TB A q cols lim tl cq sz f) (hs : TB A q' cols lim tl cq' sz' f') (h8 : 8 ≤ cq) (h8' : 8 ≤ cq') (hsz : sz' ≤ lim) (hl : cols * lim = tl) (hb : tl < 2 ^ 31) (hg : gI (sc A cq (.inl (0, tl, .inl (va_cpy f' f 0 0 (sz' * cols))))) (some q') 5 3 = some (nI sz')) (hp' : pF (sc A cq (.inl (0, tl, .inl (va_cpy f' f 0 0 (sz' * cols))))) (some q) 5 3 (LI (nI sz')) = some A2) : f_X5_copyFrom A (some q) (some q') = some A2 := by
  obtain ⟨d1, d2, d3, d4, d5, d6⟩ := hd
  obtain ⟨s1, s2, s3, s4, s5, s6⟩ := hs
  have hle : sz' * cols ≤ tl := by
    rw [← hl, Nat.mul_comm cols lim]
    exact Nat.mul_le_mul_right cols hsz
  refine tc_ab d1 s5 s2 d4 (ln6_at d6 (by decide)) ?_ s4 (ln6_at s6 (by decide)) ?_ (A1 := sc A cq (.inl (0, tl, .inl (va_cpy f' f 0 0 (sz' * cols))))) ?_ hg hp'
  · rw [pk_mul]; exact nI_nlt hle hb
  · rw [pk_mul]; exact nI_nlt hle hb
  · rw [pk_mul]; exact cpI_at s6 d6 h8' h8 hle hle (by omega)
end TLA
section TLD
variable {X : XS} {C : CS} {M : MS} {T : TS} {S : SG} {K : Nat} {mu : List Nat}
/-- only these places differ -/
def Wr (own : List Nat) (T T' : TS) : Prop := T'.1 = T.1 ∧ T'.2.1 = T.2.1 ∧ ∀ p, p ∉ own → T'.2.2 p = T.2.2 p
theorem Wr.rf {own : List Nat} : Wr own T T := ⟨rfl, rfl, fun _ _ => rfl⟩
theorem Wr.st {own : List Nat} {T' : TS} {q : Nat} {c : LC} (h : Wr own T T') (hq : q ∈ own) : Wr own T (sT T' q c) := ⟨h.1, h.2.1, fun p hp => (sT_n (fun z => hp (by rw [z]; exact hq))).trans (h.2.2 p hp)⟩
/-- the eight cells of a Told -/
def ToC (T : TS) (q qp cp qt ct qa cb qs : Nat) (np nt na : Int32) (fp ft fa : Nat → Int32) (fs : Nat → Option Nat) : Prop :=
  T.2.2 q = .inr (8, [LR (some qp), LR (some qt), LR (some qa), LR (some qs)]) ∧ T.2.2 qp = .inr (5, [LI 2, LI 16, LR (some cp), LI np]) ∧ T.2.2 cp = .inl (0, 32, .inl fp) ∧ T.2.2 qt = .inr (5, [LI 3, LI 16, LR (some ct), LI nt]) ∧ T.2.2 ct = .inl (0, 48, .inl ft) ∧ T.2.2 qa = .inr (5, [LI 5, LI 200, LR (some cb), LI na]) ∧ T.2.2 cb = .inl (0, 1000, .inl fa) ∧ T.2.2 qs = .inl (4, 4, .inr fs)
theorem tb_hp {q cols lim tl cq sz : Nat} {f : Nat → Int32} (h59 : 62 ≤ q) (hc59 : 62 ≤ cq) (h1 : T.2.2 q = .inr (5, [LI (nI cols), LI (nI lim), LR (some cq), LI (nI sz)])) (h2 : T.2.2 cq = .inl (0, tl, .inl f)) : TB (hp X C M T) q cols lim tl cq sz f := ⟨isO_hp h59 h1, gI_hp h59 h1 rfl, gI_hp h59 h1 rfl, gR_hp h59 h1 rfl, gI_hp h59 h1 rfl, (gc_hp hc59).trans h2⟩
theorem va_c0 {f g : Nat → Int32} {n i : Nat} (h : i < n) : va_cpy f g 0 0 n i = f i := by rw [pk_cpy_in (Nat.zero_le _) (by omega)]; simp
theorem RTab.cp {t : TLD} {np nt na : Int32} {fp ft fa gp gt ga : Nat → Int32} (h : RTab t np nt na fp ft fa) : RTab t np nt na (va_cpy fp gp 0 0 ((t_ppl t).length * 2)) (va_cpy ft gt 0 0 ((t_thg t).length * 3)) (va_cpy fa ga 0 0 ((t_bk t).length * 5)) := by
  obtain ⟨h1, h2, h3, h4, h5, h6⟩ := h
  refine ⟨h1, h2, h3, fun i p hp => ?_, fun i p hp => ?_, fun i p hp => ?_⟩
  · have := at_lt hp
    rw [va_c0 (by omega), va_c0 (by omega)]; exact h4 i p hp
  · have := at_lt hp
    rw [va_c0 (by omega), va_c0 (by omega), va_c0 (by omega)]; exact h5 i p hp
  · have := at_lt hp
    rw [va_c0 (by omega), va_c0 (by omega), va_c0 (by omega), va_c0 (by omega), va_c0 (by omega)]; exact h6 i p hp
/-- what is told goes into an image -/
theorem k_toImg (N : Nat) (hN : 5 ≤ N) {t : TLD} {q qp cp qt ct qa cb qs : Nat} {np nt na : Nat} {fp ft fa : Nat → Int32} {fs : Nat → Option Nat} (hc : ToC T q qp cp qt ct qa cb qs (nI np) (nI nt) (nI na) fp ft fa fs) (hnd : [q, qp, cp, qt, ct, qa, cb, qs].Nodup) (h59 : ∀ p ∈ [q, qp, cp, qt, ct, qa, cb, qs], 62 ≤ p)
    (hR : RTab t (C.1 9) (C.1 10) (C.1 11) (C.2.1 2) (C.2.1 3) (C.2.1 4)) (hW : WTld t) (hsl : ∀ i, i < 4 → ∃ v, C.2.2 1 i = some v ∧ 8 ≤ v ∧ ∀ T', Wr [q, qp, cp, qt, ct, qa, cb, qs] T T' → ∃ fs, gc (hp X C M T') v = .inr (3, fs)) :
    ∃ T' fp' ft' fa' fs', f_X8_copyFrom N (hp X C M T) (some q) (some 18) = some (hp X C M T') ∧ Wr [q, qp, cp, qt, ct, qa, cb, qs] T T' ∧ ToC T' q qp cp qt ct qa cb qs (C.1 9) (C.1 10) (C.1 11) fp' ft' fa' fs' ∧ RTab t (C.1 9) (C.1 10) (C.1 11) fp' ft' fa' ∧ ∀ i, i < 4 → fs' i = C.2.2 1 i := by
  obtain ⟨c1, c2, c3, c4, c5, c6, c7, c8⟩ := hc
  have g := h59
  simp only [List.mem_cons, List.not_mem_nil, or_false, forall_eq_or_imp, forall_eq] at g
  obtain ⟨g1, g2, g3, g4, g5, g6, g7, g8⟩ := g
  simp only [List.nodup_cons, List.mem_cons, List.not_mem_nil, or_false, not_or, not_false_eq_true, List.nodup_nil, and_true] at hnd
  obtain ⟨⟨n1, n2, n3, n4, n5, n6, n7⟩, ⟨n8, n9, n10, n11, n12, n13⟩, ⟨n14, n15, n16, n17, n18⟩, ⟨n19, n20, n21, n22⟩, ⟨n23, n24, n25⟩, ⟨n26, n27⟩, n28⟩ := hnd
  have hR' := hR
  obtain ⟨r1, r2, r3, -⟩ := hR
  obtain ⟨w1, w2, w3, -⟩ := hW
  have i2 : nI 2 = 2 := nI_2
  -- PEOPLE
  obtain ⟨T1, hT1⟩ : ∃ T1, T1 = sT (sT T cp (.inl (0, 32, .inl (va_cpy (C.2.1 2) fp 0 0 ((t_ppl t).length * 2))))) qp (.inr (5, [LI 2, LI 16, LR (some cp), LI (C.1 9)])) := ⟨_, rfl⟩
  have e1 : f_X5_copyFrom (hp X C M T) (some qp) (some 19) = some (hp X C M T1) := by
    refine tb_copy (tb_hp (cols := 2) (lim := 16) (tl := 32) (sz := np) g2 g3 c2 c3) (tb_p (n := (t_ppl t).length) r1) (by omega) (by decide) w1 rfl (by decide) ?_ ?_
    · rw [sc_hp g3, gi_19_3, r1]
    · rw [sc_hp g3, pF_hp (ci := 5) (fs := [LI 2, LI 16, LR (some cp), LI (nI np)]) g2 ((sT_n n8).trans c2) (by simp), hT1, ← r1]; rfl
  have x1 : Wr [q, qp, cp, qt, ct, qa, cb, qs] T T1 := by subst hT1; exact (Wr.rf.st (by simp)).st (by simp)
  have y1 : T1.2.2 q = T.2.2 q ∧ T1.2.2 qt = T.2.2 qt ∧ T1.2.2 ct = T.2.2 ct ∧ T1.2.2 qa = T.2.2 qa ∧ T1.2.2 cb = T.2.2 cb ∧ T1.2.2 qs = T.2.2 qs := by
    subst hT1
    refine ⟨?_, ?_, ?_, ?_, ?_, ?_⟩
    · rw [sT_n n1, sT_n n2]
    · rw [sT_n (Ne.symm n9), sT_n (Ne.symm n14)]
    · rw [sT_n (Ne.symm n10), sT_n (Ne.symm n15)]
    · rw [sT_n (Ne.symm n11), sT_n (Ne.symm n16)]
    · rw [sT_n (Ne.symm n12), sT_n (Ne.symm n17)]
    · rw [sT_n (Ne.symm n13), sT_n (Ne.symm n18)]
  have z1 : T1.2.2 qp = .inr (5, [LI 2, LI 16, LR (some cp), LI (C.1 9)]) ∧ T1.2.2 cp = .inl (0, 32, .inl (va_cpy (C.2.1 2) fp 0 0 ((t_ppl t).length * 2))) := by
    subst hT1; exact ⟨sT_s, (sT_n (Ne.symm n8)).trans sT_s⟩
  -- THINGS
  obtain ⟨T2, hT2⟩ : ∃ T2, T2 = sT (sT T1 ct (.inl (0, 48, .inl (va_cpy (C.2.1 3) ft 0 0 ((t_thg t).length * 3))))) qt (.inr (5, [LI 3, LI 16, LR (some ct), LI (C.1 10)])) := ⟨_, rfl⟩
  have e2 : f_X5_copyFrom (hp X C M T1) (some qt) (some 21) = some (hp X C M T2) := by
    refine tb_copy (tb_hp (cols := 3) (lim := 16) (tl := 48) (sz := nt) g4 g5 (y1.2.1.trans c4) (y1.2.2.1.trans c5)) (tb_t (n := (t_thg t).length) r2) (by omega) (by decide) w2 rfl (by decide) ?_ ?_
    · rw [sc_hp g5, gi_21_3, r2]
    · rw [sc_hp g5, pF_hp (ci := 5) (fs := [LI 3, LI 16, LR (some ct), LI (nI nt)]) g4 ((sT_n n19).trans (y1.2.1.trans c4)) (by simp), hT2, ← r2]; rfl
  have x2 : Wr [q, qp, cp, qt, ct, qa, cb, qs] T T2 := by subst hT2; exact (x1.st (by simp)).st (by simp)
  have y2 : T2.2.2 q = T.2.2 q ∧ T2.2.2 qp = T1.2.2 qp ∧ T2.2.2 cp = T1.2.2 cp ∧ T2.2.2 qa = T.2.2 qa ∧ T2.2.2 cb = T.2.2 cb ∧ T2.2.2 qs = T.2.2 qs := by
    subst hT2
    refine ⟨?_, ?_, ?_, ?_, ?_, ?_⟩
    · rw [sT_n n3, sT_n n4, y1.1]
    · rw [sT_n n9, sT_n n10]
    · rw [sT_n n14, sT_n n15]
    · rw [sT_n (Ne.symm n20), sT_n (Ne.symm n23), y1.2.2.2.1]
    · rw [sT_n (Ne.symm n21), sT_n (Ne.symm n24), y1.2.2.2.2.1]
    · rw [sT_n (Ne.symm n22), sT_n (Ne.symm n25), y1.2.2.2.2.2]
  have z2 : T2.2.2 qt = .inr (5, [LI 3, LI 16, LR (some ct), LI (C.1 10)]) ∧ T2.2.2 ct = .inl (0, 48, .inl (va_cpy (C.2.1 3) ft 0 0 ((t_thg t).length * 3))) := by
    subst hT2; exact ⟨sT_s, (sT_n (Ne.symm n19)).trans sT_s⟩
  -- THE BOOK
  obtain ⟨T3, hT3⟩ : ∃ T3, T3 = sT (sT T2 cb (.inl (0, 1000, .inl (va_cpy (C.2.1 4) fa 0 0 ((t_bk t).length * 5))))) qa (.inr (5, [LI 5, LI 200, LR (some cb), LI (C.1 11)])) := ⟨_, rfl⟩
  have e3 : f_X5_copyFrom (hp X C M T2) (some qa) (some 23) = some (hp X C M T3) := by
    refine tb_copy (tb_hp (cols := 5) (lim := 200) (tl := 1000) (sz := na) g6 g7 (y2.2.2.2.1.trans c6) (y2.2.2.2.2.1.trans c7)) (tb_a (n := (t_bk t).length) r3) (by omega) (by decide) w3 rfl (by decide) ?_ ?_
    · rw [sc_hp g7, gi_23_3, r3]
    · rw [sc_hp g7, pF_hp (ci := 5) (fs := [LI 5, LI 200, LR (some cb), LI (nI na)]) g6 ((sT_n n26).trans (y2.2.2.2.1.trans c6)) (by simp), hT3, ← r3]; rfl
  have x3 : Wr [q, qp, cp, qt, ct, qa, cb, qs] T T3 := by subst hT3; exact (x2.st (by simp)).st (by simp)
  have y3 : T3.2.2 q = T.2.2 q ∧ T3.2.2 qp = T1.2.2 qp ∧ T3.2.2 cp = T1.2.2 cp ∧ T3.2.2 qt = T2.2.2 qt ∧ T3.2.2 ct = T2.2.2 ct ∧ T3.2.2 qs = T.2.2 qs := by
    subst hT3
    refine ⟨?_, ?_, ?_, ?_, ?_, ?_⟩
    · rw [sT_n n5, sT_n n6, y2.1]
    · rw [sT_n n11, sT_n n12, y2.2.1]
    · rw [sT_n n16, sT_n n17, y2.2.2.1]
    · rw [sT_n n20, sT_n n21]
    · rw [sT_n n23, sT_n n24]
    · rw [sT_n (Ne.symm n27), sT_n (Ne.symm n28), y2.2.2.2.2.2]
  have z3 : T3.2.2 qa = .inr (5, [LI 5, LI 200, LR (some cb), LI (C.1 11)]) ∧ T3.2.2 cb = .inl (0, 1000, .inl (va_cpy (C.2.1 4) fa 0 0 ((t_bk t).length * 5))) := by
    subst hT3; exact ⟨sT_s, (sT_n (Ne.symm n26)).trans sT_s⟩
  -- SLOTS
  have lp : ∀ (d m i : Nat) (f : Nat → Option Nat), 4 = i + d → d < m → (∀ j, j < i → f j = C.2.2 1 j) → ∃ f', l_X8_copyFrom_35 N m (hp X C M (sT T3 qs (.inl (4, 4, .inr f)))) (some q) (some 18) (nI i) = some (hp X C M (sT T3 qs (.inl (4, 4, .inr f')))) ∧ ∀ j, j < 4 → f' j = C.2.2 1 j := by
    intro d
    induction d with
    | zero =>
      intro m i f h1 h2 h3
      obtain ⟨m, rfl⟩ : ∃ k, m = k + 1 := ⟨m - 1, by omega⟩
      exact ⟨f, cf_end N m (by rw [← nI_4]; exact nI_le (by omega) (by omega)), fun j hj => h3 j (by omega)⟩
    | succ d ih =>
      intro m i f h1 h2 h3
      obtain ⟨m, rfl⟩ : ∃ k, m = k + 1 := ⟨m - 1, by omega⟩
      obtain ⟨v, v1, v8, v2⟩ := hsl i (by omega)
      obtain ⟨ff, v3⟩ := v2 (sT T3 qs (.inl (4, 4, .inr f))) (x3.st (by simp))
      have s1 := sR_hp (X := X) (C := C) (M := M) (T := sT T3 qs (.inl (4, 4, .inr f))) (q := qs) (k := i) (t := 4) (ci := 3) g8 sT_s (by omega) (by decide) v3 v8
      rw [sTsT] at s1
      obtain ⟨f', p1, p2⟩ := ih m (i + 1) (va_up f i (some v)) (by omega) (by omega) (fun j hj => by
        by_cases z : j = i
        · subst z; rw [vu_s, v1]
        · rw [vu_n z]; exact h3 j (by omega))
      refine ⟨f', ?_, p2⟩
      rw [cf_st N m (by rw [← nI_4]; exact nI_ge (by omega) (by decide)) (gR_hp (X := X) (C := C) (M := M) g1 ((sT_n n7).trans (y3.1.trans c1)) rfl) gr_18_3 ((ar_25 (by omega)).trans (congrArg some v1)) s1, nI_1]
      exact p1
  obtain ⟨fs', l1, l2⟩ := lp 4 N 0 fs rfl (by omega) (fun j hj => by omega)
  have hs3 : sT T3 qs (.inl (4, 4, .inr fs)) = T3 := by
    unfold sT
    refine Prod.ext rfl (Prod.ext rfl ?_)
    funext p
    by_cases z : p = qs
    · subst z; show va_up _ _ _ _ = _; rw [vu_s]; exact (y3.2.2.2.2.2.trans c8).symm
    · show va_up _ _ _ _ = _; rw [vu_n z]
  rw [hs3, nI_0] at l1
  refine ⟨sT T3 qs (.inl (4, 4, .inr fs')), va_cpy (C.2.1 2) fp 0 0 ((t_ppl t).length * 2), va_cpy (C.2.1 3) ft 0 0 ((t_thg t).length * 3), va_cpy (C.2.1 4) fa 0 0 ((t_bk t).length * 5), fs', ?_, x3.st (by simp), ?_, hR'.cp, l2⟩
  · exact cf_ab (isO_hp g1 c1) (gR_hp g1 c1 rfl) gr_18_0 e1 (gR_hp g1 (y1.1.trans c1) rfl) gr_18_1 e2 (gR_hp g1 (y2.1.trans c1) rfl) gr_18_2 e3 l1
  · refine ⟨?_, ?_, ?_, ?_, ?_, ?_, ?_, sT_s⟩
    · rw [sT_n n7, y3.1]; exact c1
    · rw [sT_n n13, y3.2.1]; exact z1.1
    · rw [sT_n n18, y3.2.2.1]; exact z1.2
    · rw [sT_n n22, y3.2.2.2.1]; exact z2.1
    · rw [sT_n n25, y3.2.2.2.2.1]; exact z2.2
    · rw [sT_n n27]; exact z3.1
    · rw [sT_n n28]; exact z3.2
/-- an image comes back -/
theorem k_fromImg (N : Nat) (hN : 5 ≤ N) {t : TLD} {q qp cp qt ct qa cb qs : Nat} {fp ft fa : Nat → Int32} {fs : Nat → Option Nat} (hc : ToC T q qp cp qt ct qa cb qs (nI (t_ppl t).length) (nI (t_thg t).length) (nI (t_bk t).length) fp ft fa fs) (h59 : ∀ p ∈ [q, qp, cp, qt, ct, qa, cb, qs], 62 ≤ p)
    (hW : WTld t) {o1 o2 o3 : Nat} (hr1 : C.1 9 = nI o1) (hr2 : C.1 10 = nI o2) (hr3 : C.1 11 = nI o3) (hsl : ∀ i, i < 4 → ∃ v, fs i = some v ∧ 8 ≤ v ∧ ∀ C' : CS, ∃ fs, gc (hp X C' M T) v = .inr (3, fs)) :
    ∃ fs', f_X8_copyFrom N (hp X C M T) (some 18) (some q) = some (hp X (cr (c0 (ca (c0 (ca (c0 (ca C 2 (va_cpy fp (C.2.1 2) 0 0 ((t_ppl t).length * 2))) 9 (nI (t_ppl t).length)) 3 (va_cpy ft (C.2.1 3) 0 0 ((t_thg t).length * 3))) 10 (nI (t_thg t).length)) 4 (va_cpy fa (C.2.1 4) 0 0 ((t_bk t).length * 5))) 11 (nI (t_bk t).length)) 1 fs') M T) ∧ ∀ i, i < 4 → fs' i = fs i := by
  obtain ⟨c1, c2, c3, c4, c5, c6, c7, c8⟩ := hc
  have g := h59
  simp only [List.mem_cons, List.not_mem_nil, or_false, forall_eq_or_imp, forall_eq] at g
  obtain ⟨g1, g2, g3, g4, g5, g6, g7, g8⟩ := g
  obtain ⟨w1, w2, w3, -⟩ := hW
  obtain ⟨C1, hC1⟩ : ∃ C1, C1 = c0 (ca C 2 (va_cpy fp (C.2.1 2) 0 0 ((t_ppl t).length * 2))) 9 (nI (t_ppl t).length) := ⟨_, rfl⟩
  have e1 : f_X5_copyFrom (hp X C M T) (some 19) (some qp) = some (hp X C1 M T) := by
    refine tb_copy (tb_p (n := o1) hr1) (tb_hp (cols := 2) (lim := 16) (tl := 32) (sz := (t_ppl t).length) g2 g3 c2 c3) (by decide) (by omega) w1 rfl (by decide) ?_ ?_
    · rw [sc_20]; exact gI_hp g2 c2 rfl
    · rw [sc_20, pi_19_3, hC1]
  have k1 : C1.1 10 = C.1 10 ∧ C1.1 11 = C.1 11 ∧ C1.2.1 3 = C.2.1 3 ∧ C1.2.1 4 = C.2.1 4 := by subst hC1; exact ⟨rfl, rfl, rfl, rfl⟩
  obtain ⟨C2, hC2⟩ : ∃ C2, C2 = c0 (ca C1 3 (va_cpy ft (C.2.1 3) 0 0 ((t_thg t).length * 3))) 10 (nI (t_thg t).length) := ⟨_, rfl⟩
  have e2 : f_X5_copyFrom (hp X C1 M T) (some 21) (some qt) = some (hp X C2 M T) := by
    refine tb_copy (tb_t (n := o2) (k1.1.trans hr2)) (tb_hp (cols := 3) (lim := 16) (tl := 48) (sz := (t_thg t).length) g4 g5 c4 c5) (by decide) (by omega) w2 rfl (by decide) ?_ ?_
    · rw [sc_22]; exact gI_hp g4 c4 rfl
    · rw [sc_22, pi_21_3, hC2, k1.2.2.1]
  have k2 : C2.1 11 = C.1 11 ∧ C2.2.1 4 = C.2.1 4 := by subst hC2; exact ⟨k1.2.1, k1.2.2.2⟩
  obtain ⟨C3, hC3⟩ : ∃ C3, C3 = c0 (ca C2 4 (va_cpy fa (C.2.1 4) 0 0 ((t_bk t).length * 5))) 11 (nI (t_bk t).length) := ⟨_, rfl⟩
  have e3 : f_X5_copyFrom (hp X C2 M T) (some 23) (some qa) = some (hp X C3 M T) := by
    refine tb_copy (tb_a (n := o3) (k2.1.trans hr3)) (tb_hp (cols := 5) (lim := 200) (tl := 1000) (sz := (t_bk t).length) g6 g7 c6 c7) (by decide) (by omega) w3 rfl (by decide) ?_ ?_
    · rw [sc_24]; exact gI_hp g6 c6 rfl
    · rw [sc_24, pi_23_3, hC3, k2.2]
  have lp : ∀ (d m i : Nat) (f : Nat → Option Nat), 4 = i + d → d < m → (∀ j, j < i → f j = fs j) → ∃ f', l_X8_copyFrom_35 N m (hp X (cr C3 1 f) M T) (some 18) (some q) (nI i) = some (hp X (cr C3 1 f') M T) ∧ ∀ j, j < 4 → f' j = fs j := by
    intro d
    induction d with
    | zero =>
      intro m i f h1 h2 h3
      obtain ⟨m, rfl⟩ : ∃ k, m = k + 1 := ⟨m - 1, by omega⟩
      exact ⟨f, cf_end N m (by rw [← nI_4]; exact nI_le (by omega) (by omega)), fun j hj => h3 j (by omega)⟩
    | succ d ih =>
      intro m i f h1 h2 h3
      obtain ⟨m, rfl⟩ : ∃ k, m = k + 1 := ⟨m - 1, by omega⟩
      obtain ⟨v, v1, v8, v2⟩ := hsl i (by omega)
      obtain ⟨ff, v3⟩ := v2 (cr C3 1 f)
      have hg : gc (hp X (cr C3 1 f) M T) 25 = .inl (4, 4, .inr f) := by rw [gc_25, cr_22, up_s]
      have s1 := sR_at (t := 4) (ci := 3) (k := i) hg (by omega) (by decide) (by decide) v3 v8
      rw [sc_25, crcr] at s1
      obtain ⟨f', p1, p2⟩ := ih m (i + 1) (va_up f i (some v)) (by omega) (by omega) (fun j hj => by
        by_cases z : j = i
        · subst z; rw [vu_s, v1]
        · rw [vu_n z]; exact h3 j (by omega))
      refine ⟨f', ?_, p2⟩
      rw [cf_st N m (by rw [← nI_4]; exact nI_ge (by omega) (by decide)) gr_18_3 (gR_hp g1 c1 rfl) ((aR_hp g8 c8 (by omega) (by decide)).trans (congrArg some v1)) s1, nI_1]
      exact p1
  obtain ⟨fs', l1, l2⟩ := lp 4 N 0 (C3.2.2 1) rfl (by omega) (fun j hj => by omega)
  have hid : cr C3 1 (C3.2.2 1) = C3 := by unfold cr; rw [up_id]
  rw [hid, nI_0] at l1
  refine ⟨fs', ?_, l2⟩
  have := cf_ab (N := N) io_18 gr_18_0 (gR_hp g1 c1 rfl) e1 gr_18_1 (gR_hp g1 c1 rfl) e2 gr_18_2 (gR_hp g1 c1 rfl) e3 l1
  rw [this, hC3, hC2, hC1]
end TLD
