/-! mend: the call -/
section OME
variable {X : XS} {C : CS} {M : MS} {T : TS} {S : SG} {K : Nat} {mu : List Nat}
/-- the entries stand for the MARKED ASKS before i -/
def EnB (t : TLD) (r : RSV) (i : Nat) (en : List (Int32 × Int32)) : Prop :=
  (∀ x ∈ en, ∃ j y, j < i ∧ (t_bk t)[j]? = some y ∧ ¬ y.2.2.2.2 = -1 ∧ x.2 = y.2.2.2.2 ∧ ∀ k, k < 32 → bt x.1 k = (decide (k < r.2.length) && hB (evO t y.1 y.2.1 y.2.2.1) y.2.2.2.1 r.2 k)) ∧
  ∀ j y, j < i → (t_bk t)[j]? = some y → ¬ y.2.2.2.2 = -1 → ∃ x ∈ en, x.2 = y.2.2.2.2 ∧ ∀ k, k < 32 → bt x.1 k = (decide (k < r.2.length) && hB (evO t y.1 y.2.1 y.2.2.1) y.2.2.2.1 r.2 k)
theorem EnL.x {C' : CS} {en : List (Int32 × Int32)} (h : EnL C en) (h23 : C'.1 23 = C.1 23) (h6 : C'.2.1 6 = C.2.1 6) (h7 : C'.2.1 7 = C.2.1 7) : EnL C' en := by
  unfold EnL at h ⊢
  rw [h23, h6, h7]; exact h
theorem k_mendL (N : Nat) (hN : 601 ≤ N) {t : TLD} {r : RSV} {q : Nat} {v1 : Int32} (hR : RTab t (C.1 9) (C.1 10) (C.1 11) (C.2.1 2) (C.2.1 3) (C.2.1 4)) (hW : WTld t) (wr : WRs r) (hr : isRl mu T q r) : ∀ (d m i : Nat) (C' : CS) (en : List (Int32 × Int32)), EqX C C' → (∀ k, 24 ≤ k → k ≤ 28 → C'.1 k = C.1 k) → EnL C' en → en.length ≤ i → EnB t r i en → (t_bk t).length = i + d → d < m → ∃ C'' en' m', l_X10_mend_22 N m (hp X C' M T) (some 8) v1 (some q) (nI i) = l_X10_mend_22 N (m' + 1) (hp X C'' M T) (some 8) v1 (some q) (nI (t_bk t).length) ∧ EqX C C'' ∧ (∀ k, 24 ≤ k → k ≤ 28 → C''.1 k = C.1 k) ∧ EnL C'' en' ∧ EnB t r (t_bk t).length en' := by
  have hbk := hW.2.2.1
  intro d
  induction d with
  | zero =>
    intro m i C' en hE h24 he hl hb h1 h2
    obtain ⟨m, rfl⟩ : ∃ k, m = k + 1 := ⟨m - 1, by omega⟩
    have hi : i = (t_bk t).length := by omega
    subst hi
    exact ⟨C', en, m, rfl, hE, h24, he, hb⟩
  | succ d ih =>
    intro m i C' en hE h24 he hl hb h1 h2
    obtain ⟨m, rfl⟩ : ∃ k, m = k + 1 := ⟨m - 1, by omega⟩
    obtain ⟨y, hy⟩ := at_ex (t_bk t) (show i < _ by omega)
    have hRT := hE.tab hR
    have hlt : ¬ nI (t_bk t).length ≤ nI i := nI_ge (by omega) (by omega)
    have g3 : gI (hp X C' M T) (some 23) 5 3 = some (nI (t_bk t).length) := by rw [gi_23_3, hRT.2.2.1]
    have g5 : f_X5_get (hp X C' M T) (some 23) (nI i) 4 = some y.2.2.2.2 := by
      have := as_get (X := X) (M := M) (T := T) (C := C') (k := i) (j := 4) hRT.2.2.1 (by omega) hbk (by decide)
      rw [nI_4] at this
      exact this.trans (congrArg some (hRT.2.2.2.2.2 i y hy).2.2.2.2)
    by_cases hm : y.2.2.2.2 = -1
    · rw [hm] at g5
      rw [ml_un N m gr_8_2 gr_18_2 g3 hlt g5, nI_1]
      refine ih m (i + 1) C' en hE h24 he (by omega) ⟨fun x hx => ?_, fun j z hj hz hz2 => ?_⟩ (by omega) (by omega)
      · obtain ⟨j, z, k1, k2⟩ := hb.1 x hx
        exact ⟨j, z, by omega, k2⟩
      · by_cases hji : j = i
        · subst hji; rw [hy] at hz; cases hz; exact absurd hm hz2
        · exact hb.2 j z (by omega) hz hz2
    · have w := hW.2.2.2.2.2 i y hy
      obtain ⟨C1, c1, c2, c3⟩ := k_atAsk (X := X) (M := M) (T := T) hRT hW hy
      have we := WEv.of hW w.1 w.2.1 w.2.2.1
      obtain ⟨f, v, u, u1, u2⟩ := k_linesH (X := X) (M := M) N hN w.2.2.2.1 c3 we wr hr
      have c2' : EqT C' (kT C1 f v) := c2.kT
      have he1 : EnL (kT C1 f v) en := he.x (c2'.1 23 (by omega)) (c2'.2.1 6 (by omega)) (c2'.2.1 7 (by omega))
      obtain ⟨C2, en', w1, w2, w3, w4, w5, w6⟩ := k_want (X := X) (M := M) (T := T) (C := kT C1 f v) N (by omega) he1 (by omega) u y.2.2.2.2
      rw [ml_mk N m gr_8_2 gr_18_2 g3 hlt g5 hm gr_8_4 c1 gr_8_5 gr_8_4 u1 w1, nI_1]
      refine ih m (i + 1) C2 en' ((hE.tr c2'.x).tr w2) (fun k k1 k2 => ?_) w4 (by omega) ⟨fun x hx => ?_, fun j z hj hz hz2 => ?_⟩ (by omega) (by omega)
      · rw [w3 k (by omega), c2'.1 k (by omega)]; exact h24 k k1 k2
      · rcases (w6 x).mp hx with hx | rfl
        · obtain ⟨j, z, k1, k2⟩ := hb.1 x hx
          exact ⟨j, z, by omega, k2⟩
        · exact ⟨i, y, by omega, hy, hm, rfl, u2⟩
      · by_cases hji : j = i
        · subst hji; rw [hy] at hz; cases hz
          exact ⟨(u, y.2.2.2.2), (w6 _).mpr (Or.inr rfl), rfl, u2⟩
        · obtain ⟨x, k1, k2⟩ := hb.2 j z (by omega) hz hz2
          exact ⟨x, (w6 x).mpr (Or.inl k1), k2⟩
theorem ok_eq {t : TLD} {r : RSV} {lt : Int32} {en : List (Int32 × Int32)} (hlt : ∀ j, j < 32 → bt lt j = letB r.2 j) (hL : r.2.length ≤ 12) (hb : EnB t r (t_bk t).length en) (c : CH) : okEn r.1 r.2.length lt en c = okBk t r c := by
  have key : ∀ (x : Int32 × Int32) (y : AK), x.2 = y.2.2.2.2 → (∀ k, k < 32 → bt x.1 k = (decide (k < r.2.length) && hB (evO t y.1 y.2.1 y.2.2.1) y.2.2.2.1 r.2 k)) → (letP r.1 r.2.length (fun k => bt x.1 k && !(bt (nI (bitsOf c 0)) k)) (fun k => bt lt k ^^ bt (nI (bitsOf c 1)) k) == (x.2 == 1)) = (letP r.1 r.2.length (hM (evO t y.1 y.2.1 y.2.2.1) y.2.2.2.1 r.2 (nI (bitsOf c 0))) (ltM r.2 (nI (bitsOf c 1))) == (y.2.2.2.2 == 1)) := fun x y h1 h2 => by
    rw [h1]
    congr 1
    refine letP_congr (fun k hk => ?_) (fun k hk => ?_)
    · unfold hM
      rw [h2 k (by omega)]
      simp [hk, Bool.and_comm]
    · unfold ltM
      rw [hlt k (by omega)]
  rw [Bool.eq_iff_iff]
  unfold okEn okBk
  rw [List.all_eq_true, List.all_eq_true]
  constructor
  · intro h y hy
    by_cases hm : y.2.2.2.2 = -1
    · simp [hm]
    · obtain ⟨j, hj⟩ := List.getElem?_of_mem hy
      obtain ⟨x, x1, x2, x3⟩ := hb.2 j y (at_lt hj) hj hm
      have := h x x1
      rw [key x y x2 x3] at this
      rw [this]; simp
  · intro h x hx
    obtain ⟨j, y, y1, y2, y3, y4, y5⟩ := hb.1 x hx
    have := h y (List.mem_of_getElem? y2)
    rw [key x y y4 y5]
    have e0 : (y.2.2.2.2 == -1) = false := by simp [y3]
    rw [e0, Bool.false_or] at this
    exact this
/-- another MEND is at hand -/
def n_mend (S : SG) (m : Option (Nat × CH × Bool)) : SG := (s_tape S, s_told S, s_img S, s_flt S, m)
theorem RIM.md {r : Nat → Option Nat} {md : Option Nat} (h : RIM mu T S r md) (h51 : 54 ≤ T.1) {T' : TS} (h1 : T'.1 = T.1 + 1) (h2 : ∀ p, p < 8 + T.1 → T'.2.2 p = T.2.2 p) {m : Nat × CH × Bool} (hm : isMd T' (8 + T.1) m) : ∃ mu', Ex mu T mu' T' ∧ RIM mu' T' (n_mend S (some m)) r (some (8 + T.1)) := by
  obtain ⟨o0, o1, o2, om, e1, e2, e3, e4, e5⟩ := h
  have hgr : Gr T T' := ⟨by omega, h2⟩
  have hsub : ∀ p, p ∈ o0 ++ (o1 ++ (o2 ++ [8 + T.1])) → p ∈ mu ∨ p = 8 + T.1 := fun p hp => by
    rw [e1]
    simp only [List.mem_append, List.mem_cons, List.not_mem_nil, or_false] at hp ⊢
    rcases hp with hp | hp | hp | hp <;> simp [hp]
  have ex : Ex mu T (o0 ++ (o1 ++ (o2 ++ [8 + T.1]))) T' := fun q hq => by
    obtain ⟨g1, g2⟩ := hgr.ex (mu := mu) h51 q hq
    refine ⟨⟨fun z => ?_, g1.2⟩, g2⟩
    rcases hsub q z with z | z
    · exact hq.1 z
    · have := hq.2; omega
  have hlow : ∀ p, p ∈ mu → p < 8 + T.1 := fun p hp => (e3 p hp).2
  have hnd : (o0 ++ (o1 ++ (o2 ++ [8 + T.1]))).Nodup := by
    have h0 : (o0 ++ (o1 ++ o2)).Nodup := by
      rw [e1] at e2
      refine List.Pairwise.sublist ?_ e2
      refine List.Sublist.append (List.Sublist.refl _) (List.Sublist.append (List.Sublist.refl _) ?_)
      exact List.sublist_append_left _ _
    have := nd_mid (a := o0 ++ (o1 ++ o2)) (b := []) (own := [8 + T.1]) (by simpa using h0) (by simp) (fun x hx z => by
      simp only [List.mem_cons, List.not_mem_nil, or_false] at hx
      subst hx
      have : 8 + T.1 ∈ mu := by
        rw [e1]
        simp only [List.append_nil, List.mem_append] at z ⊢
        rcases z with z | z | z <;> simp [z]
      have := hlow _ this
      omega)
    simpa using this
  refine ⟨o0 ++ (o1 ++ (o2 ++ [8 + T.1])), ex, o0, o1, o2, [8 + T.1], rfl, hnd, fun p hp => ?_, fun j o hj => ?_, 8 + T.1, rfl, rfl, hm⟩
  · rcases hsub p hp with z | z
    · have := e3 p z; omega
    · omega
  · have h3 := e4 j o hj
    have hin : ∀ p, p ∈ o → p ∈ mu := fun p hp => by
      have hj3 := at_lt hj
      rw [e1]
      rcases (show j = 0 ∨ j = 1 ∨ j = 2 by simp at hj3; omega) with rfl | rfl | rfl <;> (cases hj; simp [hp])
    show match s_img S j with
      | none => r j = none ∧ o = []
      | some t => ∃ q, r j = some q ∧ isTo (o0 ++ (o1 ++ (o2 ++ [8 + T.1]))) T' q t o
    cases hs : s_img S j with
    | none => rw [hs] at h3; exact h3
    | some t' =>
      rw [hs] at h3
      obtain ⟨q', h4, h5⟩ := h3
      exact ⟨q', h4, h5.ex ex (fun p hp => hgr.gD (hlow p (hin p hp)))⟩
theorem k_mdNew {v1 u w : Int32} (h51 : 54 ≤ T.1) : ∃ T', f_X1_init (al (hp X C M T) (.inr (1, [LI 0, LI 0, LI 0, LI 0])) 4) (some (8 + T.1)) v1 u w = some (hp X C M T') ∧ T'.1 = T.1 + 1 ∧ T'.2.1 = T.2.1 + 4 ∧ T'.2.2 (8 + T.1) = .inr (1, [LI v1, LI u, LI w, LI 1]) ∧ ∀ p, p ≠ 8 + T.1 → T'.2.2 p = T.2.2 p := by
  rw [al_hp h51]
  have h59 : 62 ≤ 8 + T.1 := by omega
  have a3 : (aT T (.inr (1, [LI 0, LI 0, LI 0, LI 0])) 4).2.2 (8 + T.1) = .inr (1, [LI 0, LI 0, LI 0, LI 0]) := aT_s
  have p1 := pF_hp (X := X) (C := C) (M := M) (k := 0) (v := LI v1) h59 a3 (by simp)
  have p2 := pF_hp (X := X) (C := C) (M := M) (T := sT (aT T (.inr (1, [LI 0, LI 0, LI 0, LI 0])) 4) (8 + T.1) (.inr (1, [LI v1, LI 0, LI 0, LI 0]))) (k := 1) (v := LI u) h59 sT_s (by simp)
  rw [sTsT] at p2
  have p3 := pF_hp (X := X) (C := C) (M := M) (T := sT (aT T (.inr (1, [LI 0, LI 0, LI 0, LI 0])) 4) (8 + T.1) (.inr (1, [LI v1, LI u, LI 0, LI 0]))) (k := 2) (v := LI w) h59 sT_s (by simp)
  rw [sTsT] at p3
  have p4 := pZ_hp (X := X) (C := C) (M := M) (T := sT (aT T (.inr (1, [LI 0, LI 0, LI 0, LI 0])) 4) (8 + T.1) (.inr (1, [LI v1, LI u, LI w, LI 0]))) (k := 3) (x := 1) h59 sT_s (by simp) (Or.inr rfl)
  rw [sTsT] at p4
  exact ⟨_, m1_ab (isO_hp h59 a3) p1 p2 p3 p4, rfl, rfl, sT_s, fun p hp' => (sT_n hp').trans (aT_n hp')⟩
theorem op_mend (N : Nat) (hN : 4000 ≤ N) (h : INV S C M T K) (x : Int32) : ∃ r S' C' M' T', f_X10_mend N (hp X C M T) (some 8) x = some (r, hp X C' M T') ∧ f_X11_mend N (hp X C' M T') (some 35) x = some (r, hp X C' M' T') ∧ INV S' C' M' T' (K + 1) ∧ Bd T T' := by
  have hz := h.z
  obtain ⟨hW, hC, hM⟩ := h
  have hC0 := hC
  obtain ⟨a1, a2, a3, a4, a5, mu, a6, a7⟩ := hC
  have wt := hW.2.2.1.1
  have hbk := wt.2.2.1
  rcases i_cases x 4 (by decide) with ⟨k, hk, rfl⟩ | hx
  · obtain ⟨q, hq, hr⟩ := k_rin (X := X) (M := M) a6 hk
    have wr := hW.2.2.1.2 k hk
    have w12 := wr.2.1
    obtain ⟨R, hRd⟩ : ∃ R, R = t_sl (s_told S) k := ⟨_, rfl⟩
    rw [← hRd] at hr wr w12
    have mr : MRs M k R := hRd ▸ MRs.of hM.2.2.1 hk
    have mr0 : MRs (m0 M 0 0) k R := mr
    have mt0 : MTab (s_told S) 0 (m0 M 0 0).2.2 := hM.2.1
    -- start
    obtain ⟨z0, ql, qo, fl, fo, z1, z2, z3, z4, z5, z6, z7⟩ := hr
    have hr : isRl mu T q R := ⟨z0, ql, qo, fl, fo, z1, z2, z3, z4, z5, z6, z7⟩
    have hlets : ∀ C : CS, ∃ w, l_X3_letsOf_4 N (hp X C M T) N (some ql) 0 0 = some w ∧ ∀ j, j < 32 → bt w j = letB R.2 j := fun C => by
      by_cases hql : 62 ≤ ql
      · have hA : LsA T ql R.2.length R.2 := by
          refine ⟨hql, rfl, fl, (gD_hi hql).symm.trans z4, fun i l hl => ?_⟩
          obtain ⟨p, p1, p2⟩ := z6 i l hl
          obtain ⟨p3, p4⟩ := p2.hi
          obtain ⟨y0, w, f, y1, y2, -⟩ := p2
          exact ⟨(wr.2.2 l (List.mem_of_getElem? hl)).1, p, _, p1, p3, (gD_hi p3).symm.trans y2⟩
        obtain ⟨w, e1, e2⟩ := k_lets (X := X) (C := C) (M := M) N hA w12 R.2.length N 0 0 (by omega) (by omega) (fun j hj => by rw [b_0]; simp)
        rw [nI_0] at e1
        exact ⟨w, e1, e2⟩
      · have hl0 : R.2.length = 0 := by
          rcases z1.2 with rfl | rfl | rfl | hh
          · exact absurd z4 (by simp [gD])
          · have : gD T 27 = .inl (3, 0, .inr fun _ => none) := rfl
            rw [this] at z4
            injection z4 with z4
            simp only [Prod.mk.injEq] at z4
            exact z4.2.1.symm
          · exact absurd z4 (by simp [gD])
          · omega
        obtain ⟨m, hm⟩ : ∃ m, N = m + 1 := ⟨N - 1, by omega⟩
        refine ⟨0, ?_, fun j hj => ?_⟩
        · have hg : ln6 (hp X C M T) (some ql) = some (nI R.2.length) := ln6_at (z1.gc.trans z4) (by decide)
          have : ∀ m, l_X3_letsOf_4 N (hp X C M T) (m + 1) (some ql) 0 0 = some 0 := fun m => by
            show b_X3_letsOf_4 N _ _ (some ql) 0 0 = _
            unfold b_X3_letsOf_4
            refine (bnd_eq hg).trans (if_pos ?_)
            rw [hl0]; decide
          rw [hm]; rw [hm] at this; exact this m
        · rw [b_0]
          unfold letB
          rw [List.getElem?_eq_none (by omega)]
    obtain ⟨lt, t1, t2⟩ := hlets (c0 (c0 C 24 (nI R.1)) 25 (nI R.2.length))
    obtain ⟨C1, hC1⟩ : ∃ C1, C1 = c0 (c0 (c0 (c0 C 24 (nI R.1)) 25 (nI R.2.length)) 26 lt) 23 0 := ⟨_, rfl⟩
    have e1 : EqX C C1 := by subst hC1; exact (((EqX.rf.sc (by omega)).sc (by omega)).sc (by omega)).sc (by omega)
    have k24 : C1.1 24 = nI R.1 ∧ C1.1 25 = nI R.2.length ∧ C1.1 26 = lt := by subst hC1; exact ⟨rfl, rfl, rfl⟩
    have st : f_X4_start N (hp X C M T) (some 32) (some q) = some (hp X C1 M T) := by
      have s1 := gI_at (k := 0) (z0.gc (X := X) (C := C) (M := M) |>.trans z3) rfl
      have s2 := gR_at (k := 1) (z0.gc (X := X) (C := c0 C 24 (nI R.1)) (M := M) |>.trans z3) rfl
      have s3 : ln6 (hp X (c0 C 24 (nI R.1)) M T) (some ql) = some (nI R.2.length) := ln6_at (z1.gc.trans z4) (by decide)
      have s4 := gR_at (k := 1) (z0.gc (X := X) (C := c0 (c0 C 24 (nI R.1)) 25 (nI R.2.length)) (M := M) |>.trans z3) rfl
      have s5 := isO_at (z0.gc (X := X) (C := c0 (c0 C 24 (nI R.1)) 25 (nI R.2.length)) (M := M) |>.trans z3)
      rw [hC1]
      exact ss_ab N io_32 s1 (pi_32_3 _) s2 s3 (pi_32_4 _) (le_ab N s5 s4 t1) (pi_32_5 _) (pi_32_2 _)
    have en0 : EnL C1 [] := by subst hC1; exact ⟨rfl, by simp, fun i x hx => by cases hx⟩
    obtain ⟨C2, en, m', g1, g2, g3, g4, g5⟩ := k_mendL (X := X) (M := M) (C := C1) (v1 := nI k) N (by omega) (e1.tab a2) wt wr hr (t_bk (s_told S)).length N 0 C1 [] EqX.rf (fun _ _ _ => rfl) en0 (by simp) ⟨fun x hx => (by cases hx), fun j y hj => (by omega)⟩ (by omega) (by omega)
    rw [nI_0] at g1
    have e2 : EqX C C2 := e1.tr g2
    have h24 := (g3 24 (by omega) (by omega)).trans k24.1
    have h25 := (g3 25 (by omega) (by omega)).trans k24.2.1
    have h26 := (g3 26 (by omega) (by omega)).trans k24.2.2
    have hok : okEn R.1 R.2.length lt en = okBk (s_told S) R := funext fun c => ok_eq t2 w12 g5 c
    have fw := k_fewest (X := X) (M := M) (T := T) N (by omega) wr.1 w12 h24 h25 h26 g4 (fun x hx j h1 h2 => by
      obtain ⟨jj, y, y1, y2, y3, y4, y5⟩ := g5.1 x hx
      rw [y5 j h2, show decide (j < R.2.length) = false by simp; omega, Bool.false_and])
    rw [hok] at fw
    have g20 : ∀ C' : CS, EqX C C' → gI (hp X C' M T) (some 23) 5 3 = some (nI (t_bk (s_told S)).length) := fun C' hE => by rw [gi_23_3, (hE.tab a2).2.2.1]
    have hmd := fun (CC : CS) (TT : TS) => m_mendL (X := X) (C := CC) (T := TT) (M := m0 M 0 0) N (by omega) hk mt0 wt wr mr0
    cases hF : mdF (okBk (s_told S) R) R.2.length with
    | none =>
      obtain ⟨u, w, f1⟩ := fw.1 hF
      have c1 := mn_go (N := N) io_8 hq (s_ne q) gr_8_5 st (g1.trans (ml_fn N m' gr_8_2 gr_18_2 (g20 C2 e2) (nI_le (Nat.le_refl _) (by omega)) gr_8_5 f1))
      obtain ⟨M2, m1, m2⟩ := (hmd (s2 C2 u w) T 4 N 0 (m0 M 0 0) rfl (by omega) EqN.rf).1 (by rw [← List.range_eq_range']; exact hF)
      rw [nI_0] at m1
      refine ⟨-1, S, s2 C2 u w, M2, T, c1, mM_go' io_35 (pi_35_0 0) (slz hk) m1, ⟨hW, ?_, ?_⟩, Bd.rf T⟩
      · exact ((e2.sc (k := 27) (v := u) (by omega)).sc (k := 28) (v := w) (by omega)).rc hC0
      · exact (EqN.rf.s0 (Or.inl rfl)).tr m2 |>.rm hW hM
    | some c =>
      have f1 := fw.2 c hF
      have hcm : ∃ kk, kk < 4 ∧ c ∈ allC R.2.length kk 0 [] := by
        unfold mdF at hF
        obtain ⟨kk, hk1, hk2⟩ := List.exists_of_findSome?_eq_some hF
        exact ⟨kk, List.mem_range.mp hk1, List.mem_of_find?_eq_some hk2⟩
      obtain ⟨kk, hk1, hk2⟩ := hcm
      obtain ⟨o1, o2, o3⟩ := okE_p (allC_ok w12 hk1 hk2)
      obtain ⟨T', n1, n2, n3, n4, n5⟩ := k_mdNew (X := X) (C := sB C2 c) (M := M) (T := T) (v1 := nI k) (u := nI (bitsOf c 0)) (w := nI (bitsOf c 1)) a4
      have hal := al_hp (X := X) (C := sB C2 c) (M := M) (c := .inr (1, [LI 0, LI 0, LI 0, LI 0])) (z := 4) a4
      have n1' : f_X1_init (hp X (sB C2 c) M (aT T (.inr (1, [LI 0, LI 0, LI 0, LI 0])) 4)) (some (8 + hn (hp X (sB C2 c) M T))) (nI k) (nI (bitsOf c 0)) (nI (bitsOf c 1)) = some (hp X (sB C2 c) M T') := by rw [← hal]; exact n1
      have n6 : pF (hp X (sB C2 c) M T') (some 8) 10 6 (LR (some (8 + hn (hp X (sB C2 c) M T)))) = some (hp X (cr (sB C2 c) 3 (up ((sB C2 c).2.2 3) 0 (some (8 + T.1)))) M T') := pr_8_6 (some (8 + T.1))
      have c1 := mn_go (N := N) io_8 hq (s_ne q) gr_8_5 st (g1.trans (ml_fs N m' gr_8_2 gr_18_2 (g20 C2 e2) (nI_le (Nat.le_refl _) (by omega)) gr_8_5 f1 (oI_ne (k := c.length) (by omega)) hal gr_8_5 (u := nI (bitsOf c 0)) (w := nI (bitsOf c 1)) (by rw [gi_32_6]; exact congrArg some s2_g27) (by rw [gi_32_7]; exact congrArg some s2_g28) n1' n6))
      have hmd' : isMd T' (8 + T.1) (k, c, true) := by
        unfold isMd
        rw [gD_hi (by omega), n4]; rfl
      obtain ⟨mu', x1, x2⟩ := a7.md a4 n2 (fun p hp => n5 p (by omega)) hmd'
      obtain ⟨M2, m1, m2⟩ := (hmd (cr (sB C2 c) 3 (up ((sB C2 c).2.2 3) 0 (some (8 + T.1)))) T' 4 N 0 (m0 M 0 0) rfl (by omega) EqN.rf).2 c (by rw [← List.range_eq_range']; exact hF)
      rw [nI_0] at m1
      have eB : EqX C (sB C2 c) := (e2.sc (k := 27) (v := nI (bitsOf c 0)) (by omega)).sc (k := 28) (v := nI (bitsOf c 1)) (by omega)
      refine ⟨nI c.length, n_mend S (some (k, c, true)), cr (sB C2 c) 3 (up ((sB C2 c).2.2 3) 0 (some (8 + T.1))), M2, T', c1, mM_go' io_35 (pi_35_0 0) (slz hk) m1, ⟨?_, ?_, ?_⟩, ?_⟩
      · obtain ⟨w1, w2, w3, w5, w6⟩ := hW
        refine ⟨w1, w2, w3, w5, fun m hm => ?_⟩
        cases hm
        refine ⟨hk, by show c.length ≤ 3; omega, fun y hy => ?_, o3, fun _ y hy => ?_⟩
        · have := o2 y hy; omega
        · show y.1 < (t_sl (s_told S) k).2.length
          rw [← hRd]; exact (o2 y hy).1
      · obtain ⟨b1, b2, b3, -⟩ := eB.rc hC0
        have r1 : (cr (sB C2 c) 3 (up ((sB C2 c).2.2 3) 0 (some (8 + T.1)))).2.2 1 = C.2.2 1 := by rw [cr_22, up_n _ _ (by decide), eB.2.2]
        have r2 : (cr (sB C2 c) 3 (up ((sB C2 c).2.2 3) 0 (some (8 + T.1)))).2.2 2 = C.2.2 2 := by rw [cr_22, up_n _ _ (by decide), eB.2.2]
        have r3 : (cr (sB C2 c) 3 (up ((sB C2 c).2.2 3) 0 (some (8 + T.1)))).2.2 3 0 = some (8 + T.1) := by rw [cr_22, up_s, up_s]
        refine ⟨b1, b2, b3, by omega, fun p hp => ?_, mu', ?_, ?_⟩
        · rw [n5 p (by omega)]; exact a5 p (by omega)
        · rw [r1]; exact a6.ex x1
        · rw [r2, r3]; exact x2
      · obtain ⟨m1', m2', m3', m4', m5', m6', m7'⟩ := hM
        obtain ⟨q1, q2, q3, q4, q5, q6, q7⟩ := m2
        have kk0 : ∀ j, j ≠ 0 → j ≠ 39 → j ≠ 40 → j ≠ 41 → j ≠ 42 → j ≠ 43 → j ≠ 44 → M2.1 j = M.1 j := fun j j0 j1 j2 j3 j4 j5 j6 => (q1 j j0 j1 j2 j3 j4 j5 j6).trans (by rw [m0_1, up_n _ _ j0])
        have bb : ∀ a, a ≠ 38 → a ≠ 45 → a ≠ 46 → a ≠ 47 → a ≠ 48 → M2.2.2 a = M.2.2 a := q2
        have hA : ∀ j, Agr j M.2.2 M2.2.2 := fun j a i hi => by
          by_cases e : a = 38 ∨ a = 45 ∨ a = 46 ∨ a = 47 ∨ a = 48
          · rcases e with rfl | rfl | rfl | rfl | rfl <;> exact absurd hi (Nat.not_lt_zero _)
          · rw [bb a (by omega) (by omega) (by omega) (by omega) (by omega)]
        obtain ⟨w1, w2, w3, w5, w6⟩ := hW
        refine ⟨?_, m2'.agr w3.1 (hA 0), m3'.agr w3.2 (hA 0), ?_, ?_, ?_, MIm.agr (S := S) (S' := n_mend S (some (k, c, true))) m7' w5 rfl (bb 49 (by decide) (by decide) (by decide) (by decide) (by decide)) fun j _ => hA j⟩
        · rw [kk0 2 (by decide) (by decide) (by decide) (by decide) (by decide) (by decide) (by decide), bb 1 (by decide) (by decide) (by decide) (by decide) (by decide)]; exact m1'
        · rw [kk0 24 (by decide) (by decide) (by decide) (by decide) (by decide) (by decide) (by decide), kk0 25 (by decide) (by decide) (by decide) (by decide) (by decide) (by decide) (by decide)]; exact m4'
        · show M2.1 41 = 1 ∧ M2.1 42 = nI k ∧ M2.1 44 = nI c.length ∧ (true = true ↔ M2.2.2 37 k = M2.1 43) ∧ ∀ (i : Nat) (y : Nat × Nat), c[i]? = some y → M2.2.2 45 i = nI y.1 ∧ M2.2.2 46 i = nI y.2
          refine ⟨q3, q4, q6, ⟨fun _ => ?_, fun _ => rfl⟩, q7⟩
          rw [bb 37 (by decide) (by decide) (by decide) (by decide) (by decide), q5]; rfl
        · obtain ⟨n, t1, t2, t3, t4⟩ := m6'
          refine ⟨n, by omega, ?_, fun i hi => ?_, fun _ => ?_⟩
          · rw [kk0 36 (by decide) (by decide) (by decide) (by decide) (by decide) (by decide) (by decide)]; exact t2
          · rw [bb 37 (by decide) (by decide) (by decide) (by decide) (by decide)]; exact t3 i hi
          · obtain ⟨tt, t5, t6⟩ := t3 k hk
            exact ⟨tt, t5, q5.trans t6⟩
      · exact ⟨by omega, by omega, by omega⟩
  · exact ⟨-1, S, C, _, T, mn_no io_8 (k_rin_f hx), mM_no io_35 (pi_35_0 0) (slf hx), hz, Bd.rf T⟩
end OME
