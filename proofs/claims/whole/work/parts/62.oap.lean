/-! apply: the call -/
section OAP
variable {X : XS} {C : CS} {M : MS} {T : TS} {S : SG} {K : Nat} {mu : List Nat}
/-- the RULES with their CHANGES -/
theorem k_changed (N : Nat) (hN : 20 ≤ N) {q : Nat} {r : RSV} {c : CH} (h51 : 54 ≤ T.1) (hmu : ∀ x ∈ mu, x < 8 + T.1) (hT : ∀ p, 8 + T.1 ≤ p → T.2.2 p = ab_) (wr : WRs r) (hr : isRl mu T q r) (hc : ∀ x ∈ c, x.1 < r.2.length ∧ x.2 < 2) (hpw : (c.map Prod.fst).Pairwise (· < ·)) : ∃ T' qn, f_X3_changed N (hp X C M T) (some q) (nI (bitsOf c 0)) (nI (bitsOf c 1)) = some (some qn, hp X C M T') ∧ isRl mu T' qn (r.1, clsL c 0 r.2) ∧ 62 ≤ qn ∧ T'.1 ≤ T.1 + 15 ∧ T.1 ≤ T'.1 ∧ T'.2.1 ≤ T.2.1 + 200 ∧ (∀ p, p < 8 + T.1 → T'.2.2 p = T.2.2 p) ∧ (∀ p, 8 + T'.1 ≤ p → T'.2.2 p = ab_) ∧ (∀ x ∈ mu, x < 8 + T'.1) := by
  obtain ⟨w1, w2, w3⟩ := wr
  have hbit : ∀ w j, j < 32 → bt (nI (bitsOf c w)) j = cb c j w := fun w j hj => bo_bt hpw w hj
  have hcz : ∀ w j, r.2.length ≤ j → cb c j w = false := fun w j hj => by
    unfold cb
    rw [List.any_eq_false]
    intro x hx
    have := (hc x hx).1
    simp; omega
  -- how many are kept
  have hbc := bc_24 (nI (bitsOf c 0)) (fun j h1 h2 => by rw [hbit 0 j h2, hcz 0 j (by omega)])
  have hcn : cntB (bt (nI (bitsOf c 0))) 24 = (List.range' 0 r.2.length).countP (fun k => cb c k 0) := by
    unfold cntB
    have e1 : (List.range 24).countP (bt (nI (bitsOf c 0))) = (List.range 24).countP (fun k => cb c k 0) := List.countP_congr fun j hj => by rw [hbit 0 j (by have := List.mem_range.mp hj; omega)]
    rw [e1, ← List.range_eq_range']
    have e2 : ∀ d, (List.range (r.2.length + d)).countP (fun k => cb c k 0) = (List.range r.2.length).countP (fun k => cb c k 0) := by
      intro d
      induction d with
      | zero => rfl
      | succ d ih => rw [← Nat.add_assoc, List.range_succ, List.countP_append, ih, List.countP_cons, hcz 0 (r.2.length + d) (by omega)]; simp
    have := e2 (24 - r.2.length)
    rwa [show r.2.length + (24 - r.2.length) = 24 by omega] at this
  have hlen := clsL_len c r.2 0
  rw [hcn] at hbc
  obtain ⟨z0, ql, qo, fl, fo, z1, z2, z3, z4, z5, z6, z7⟩ := hr
  have gq : ∀ T' : TS, (∀ p, p < 8 + T.1 → T'.2.2 p = T.2.2 p) → gD T' q = gD T q ∧ gD T' ql = gD T ql := fun T' h => by
    have a1 := z0.2
    have a2 := z1.2
    constructor
    · by_cases h9 : q < 62
      · exact gD_lo h9
      · rw [gD_hi (by omega), gD_hi (by omega)]; exact h q (by omega)
    · by_cases h9 : ql < 62
      · exact gD_lo h9
      · rw [gD_hi (by omega), gD_hi (by omega)]; exact h ql (by omega)
  have gR1 : ∀ T' : TS, (∀ p, p < 8 + T.1 → T'.2.2 p = T.2.2 p) → gR (hp X C M T') (some q) 3 1 = some (some ql) := fun T' h => gR_at ((gcD (by have := z0.2; omega)).trans ((gq T' h).1.trans z3)) rfl
  have gI0 : ∀ T' : TS, (∀ p, p < 8 + T.1 → T'.2.2 p = T.2.2 p) → gI (hp X C M T') (some q) 3 0 = some (nI r.1) := fun T' h => gI_at ((gcD (by have := z0.2; omega)).trans ((gq T' h).1.trans z3)) rfl
  have gL : ∀ T' : TS, (∀ p, p < 8 + T.1 → T'.2.2 p = T.2.2 p) → ln6 (hp X C M T') (some ql) = some (nI r.2.length) := fun T' h => ln6_at ((gcD (by have := z1.2; omega)).trans ((gq T' h).2.trans z4)) (by decide)
  have gA : ∀ T' : TS, (∀ p, p < 8 + T.1 → T'.2.2 p = T.2.2 p) → ∀ i, i < r.2.length → aR (hp X C M T') (some ql) 3 (nI i) = some (fl i) := fun T' h i hi => aR_at ((gcD (by have := z1.2; omega)).trans ((gq T' h).2.trans z4)) hi (by omega)
  obtain ⟨K, hK⟩ : ∃ K, K = (clsL c 0 r.2).length := ⟨_, rfl⟩
  have hKn : r.2.length - (List.range' 0 r.2.length).countP (fun k => cb c k 0) = K := by omega
  have nr := nR_hp (X := X) (C := C) (M := M) (T := T) (t := 3) (n := K) h51 (by omega)
  obtain ⟨T1, hT1⟩ : ∃ T1, T1 = aT T (.inl (3, K, .inr fun _ => none)) K := ⟨_, rfl⟩
  have b1 : T1.1 = T.1 + 1 ∧ T1.2.1 = T.2.1 + K := by subst hT1; exact ⟨rfl, rfl⟩
  have b2 : T1.2.2 (8 + T.1) = .inl (3, K, .inr fun _ => none) := by subst hT1; exact aT_s
  have b3 : ∀ p, p ≠ 8 + T.1 → T1.2.2 p = T.2.2 p := by subst hT1; exact fun p hp' => aT_n hp'
  rw [← hT1] at nr
  have kq59 : 62 ≤ 8 + T.1 := by omega
  -- the loop
  have lp : ∀ (l : List LNV) (m i : Nat) (dn : List LNV) (Ti : TS) (fk : Nat → Option Nat), r.2.drop i = l → i + l.length = r.2.length → l.length < m → clsL c 0 r.2 = dn ++ clsL c i l → (∀ p, p < 8 + T.1 → Ti.2.2 p = T.2.2 p) → T.1 + 1 ≤ Ti.1 → Ti.1 ≤ T.1 + 1 + i → Ti.2.1 ≤ T.2.1 + 12 + 7 * i → (∀ p, 8 + Ti.1 ≤ p → Ti.2.2 p = ab_) → Ti.2.2 (8 + T.1) = .inl (3, K, .inr fk) → (∀ j x, dn[j]? = some x → ∃ p, fk j = some p ∧ isLn ((8 + T.1) :: mu) Ti p x) →
      ∃ Tf fk', l_X3_changed_24 N m (hp X C M Ti) (some q) (nI (bitsOf c 0)) (nI (bitsOf c 1)) (some (8 + T.1)) (nI dn.length) (nI i) = b_X3_changed_102 N (hp X C M Tf) (some q) (some (8 + T.1)) ∧ (∀ p, p < 8 + T.1 → Tf.2.2 p = T.2.2 p) ∧ T.1 + 1 ≤ Tf.1 ∧ Tf.1 ≤ T.1 + 13 ∧ Tf.2.1 ≤ T.2.1 + 96 ∧ (∀ p, 8 + Tf.1 ≤ p → Tf.2.2 p = ab_) ∧ Tf.2.2 (8 + T.1) = .inl (3, K, .inr fk') ∧ ∀ j x, (clsL c 0 r.2)[j]? = some x → ∃ p, fk' j = some p ∧ isLn ((8 + T.1) :: mu) Tf p x := by
    intro l
    induction l with
    | nil =>
      intro m i dn Ti fk h1 h2 h3 h4 h5 h6 h7 h8 h9 h10 h11
      obtain ⟨m, rfl⟩ : ∃ k, m = k + 1 := ⟨m - 1, by omega⟩
      rw [List.length_nil] at h2
      have hd : clsL c 0 r.2 = dn := by rw [h4]; show dn ++ [] = dn; simp
      exact ⟨Ti, fk, ch_e1 N m (gR1 Ti h5) (gL Ti h5) (nI_le (by omega) (by omega)), h5, h6, by omega, by omega, h9, h10, by rw [hd]; exact h11⟩
    | cons x l ih =>
      intro m i dn Ti fk h1 h2 h3 h4 h5 h6 h7 h8 h9 h10 h11
      obtain ⟨m, rfl⟩ : ∃ k, m = k + 1 := ⟨m - 1, by omega⟩
      rw [List.length_cons] at h2 h3
      have hx : r.2[i]? = some x := by
        have := congrArg (fun z => z[0]?) h1
        simp only [List.getElem?_drop, Nat.add_zero, List.getElem?_cons_zero] at this
        exact this
      have hd : r.2.drop (i + 1) = l := by
        have := congrArg (fun z => z.drop 1) h1
        simpa [List.drop_drop, Nat.add_comm] using this
      have hlt : ¬ nI r.2.length ≤ nI i := nI_ge (by omega) (by omega)
      have gk := ln_hp (X := X) (C := C) (M := M) (T := Ti) kq59 h10 (by decide)
      have hKd : K = dn.length + (clsL c i (x :: l)).length := by rw [hK, h4, List.length_append]
      by_cases hfull : K ≤ dn.length
      · have hnil : clsL c i (x :: l) = [] := List.eq_nil_of_length_eq_zero (by omega)
        have hd2 : clsL c 0 r.2 = dn := by rw [h4, hnil]; simp
        exact ⟨Ti, fk, ch_e2 N m (gR1 Ti h5) (gL Ti h5) hlt gk (nI_le hfull (by omega)), h5, h6, by omega, by omega, h9, h10, by rw [hd2]; exact h11⟩
      · have hnf : ¬ nI K ≤ nI dn.length := nI_ge (by omega) (by omega)
        have hb0 := hb_e (nI (bitsOf c 0)) (i := i) (by omega)
        rw [hbit 0 i (by omega)] at hb0
        have hb1 := hb_e (nI (bitsOf c 1)) (i := i) (by omega)
        rw [hbit 1 i (by omega)] at hb1
        have hcl : clsL c i (x :: l) = if cb c i 0 then clsL c (i + 1) l else (if cb c i 1 then turnL x else x) :: clsL c (i + 1) l := rfl
        rw [hcl] at h4
        obtain ⟨p, p1, p2⟩ := z6 i x hx
        have wx := (w3 x (List.mem_of_getElem? hx)).1
        have ga := gA Ti h5 i (by omega)
        rw [p1] at ga
        -- the LINE as it stands now
        have hmu1 : ∀ y ∈ (8 + T.1) :: mu, y < 8 + Ti.1 := fun y hy => by
          rcases List.mem_cons.mp hy with rfl | hy
          · omega
          · have := hmu y hy; omega
        have ex1 : Ex mu T ((8 + T.1) :: mu) Ti := fun y hy => by
          have hy2 := hy.2
          refine ⟨⟨fun z => ?_, by omega⟩, ?_⟩
          · rcases List.mem_cons.mp z with z | z
            · omega
            · exact hy.1 z
          · by_cases y59 : y < 62
            · exact gD_lo y59
            · rw [gD_hi (by omega), gD_hi (by omega)]; exact h5 y (by omega)
        have px : isLn ((8 + T.1) :: mu) Ti p x := p2.ex ex1
        cases hq0 : cb c i 0 with
        | true =>
          rw [hq0] at hb0 h4
          rw [ch_l N m (gR1 Ti h5) (gL Ti h5) hlt gk hnf hb0, nI_1]
          exact ih m (i + 1) dn Ti fk hd (by omega) (by omega) h4 h5 h6 (by omega) (by omega) h9 h10 h11
        | false =>
          rw [hq0] at hb0 h4
          -- writing into the row of those kept
          have wr2 : ∀ (Tj : TS) (pn : Nat) (xn : LNV), Tj.2.2 (8 + T.1) = .inl (3, K, .inr fk) → isLn ((8 + T.1) :: mu) Tj pn xn → (∀ j y, dn[j]? = some y → ∃ p, fk j = some p ∧ isLn ((8 + T.1) :: mu) Tj p y) → sR (hp X C M Tj) (some (8 + T.1)) 3 0 (nI dn.length) (some pn) = some (hp X C M (sT Tj (8 + T.1) (.inl (3, K, .inr (va_up fk dn.length (some pn)))))) ∧ ∀ j y, (dn ++ [xn])[j]? = some y → ∃ p, va_up fk dn.length (some pn) j = some p ∧ isLn ((8 + T.1) :: mu) (sT Tj (8 + T.1) (.inl (3, K, .inr (va_up fk dn.length (some pn))))) p y := fun Tj pn xn g1 g2 g3 => by
            obtain ⟨pn59, pn8⟩ := g2.hi
            have hcell : ∃ fs, gc (hp X C M Tj) pn = .inr (0, fs) := by
              obtain ⟨y0, w, f, y1, y2, -⟩ := g2
              exact ⟨_, y0.gc.trans y2⟩
            obtain ⟨fs, hcell⟩ := hcell
            have exw : Ex ((8 + T.1) :: mu) Tj ((8 + T.1) :: mu) (sT Tj (8 + T.1) (.inl (3, K, .inr (va_up fk dn.length (some pn))))) := fun y hy => by
              have hne : y ≠ 8 + T.1 := fun z => hy.1 (by rw [z]; simp)
              refine ⟨hy, ?_⟩
              by_cases y59 : y < 62
              · exact gD_lo y59
              · rw [gD_hi (by omega), gD_hi (by omega)]; exact sT_n hne
            refine ⟨sR_hp kq59 g1 (by omega) (by omega) hcell (by omega), fun j y hy => ?_⟩
            rcases ap_some hy with ⟨hy, hj⟩ | ⟨rfl, rfl⟩
            · obtain ⟨p', q1, q2⟩ := g3 j y hy
              exact ⟨p', by rw [vu_n (by omega)]; exact q1, q2.ex exw⟩
            · exact ⟨pn, vu_s, g2.ex exw⟩
          cases hq1 : cb c i 1 with
          | false =>
            rw [hq1] at hb1 h4
            obtain ⟨s1, s2⟩ := wr2 Ti p x h10 px h11
            rw [ch_s N m (gR1 Ti h5) (gL Ti h5) hlt gk hnf hb0 ga hb1 s1, nI_1, nI_1]
            have e5 : ∀ p', p' < 8 + T.1 → (sT Ti (8 + T.1) (.inl (3, K, .inr (va_up fk dn.length (some p))))).2.2 p' = T.2.2 p' := fun p' hp' => (sT_n (by omega)).trans (h5 p' hp')
            have := ih m (i + 1) (dn ++ [x]) (sT Ti (8 + T.1) (.inl (3, K, .inr (va_up fk dn.length (some p))))) (va_up fk dn.length (some p)) hd (by omega) (by omega) (by rw [h4]; simp) e5 h6 (by show Ti.1 ≤ _; omega) (by show Ti.2.1 ≤ _; omega) (fun p' hp' => (sT_n (by have hp2 : 8 + Ti.1 ≤ p' := hp'; omega)).trans (h9 p' hp')) sT_s s2
            rw [List.length_append, List.length_singleton] at this
            exact this
          | true =>
            rw [hq1] at hb1 h4
            obtain ⟨Tj, t1, t2, t3, t4, t5⟩ := k_turned (X := X) (C := C) (M := M) (T := Ti) (by omega) hmu1 px wx
            have hgr : Gr Ti Tj := ⟨by omega, fun y hy => t5 y (by omega)⟩
            have ex2 : Ex ((8 + T.1) :: mu) Ti ((8 + T.1) :: mu) Tj := hgr.ex (by omega)
            obtain ⟨s1, s2⟩ := wr2 Tj (8 + Ti.1) (turnL x) ((t5 _ (by omega)).trans h10) t4 (fun j y hy => by
              obtain ⟨p', q1, q2⟩ := h11 j y hy
              exact ⟨p', q1, q2.ex ex2⟩)
            rw [ch_t N m (gR1 Ti h5) (gL Ti h5) hlt gk hnf hb0 ga hb1 t1 s1, nI_1, nI_1]
            have e5 : ∀ p', p' < 8 + T.1 → (sT Tj (8 + T.1) (.inl (3, K, .inr (va_up fk dn.length (some (8 + Ti.1)))))).2.2 p' = T.2.2 p' := fun p' hp' => (sT_n (by omega)).trans ((t5 p' (by omega)).trans (h5 p' hp'))
            have := ih m (i + 1) (dn ++ [turnL x]) (sT Tj (8 + T.1) (.inl (3, K, .inr (va_up fk dn.length (some (8 + Ti.1)))))) (va_up fk dn.length (some (8 + Ti.1))) hd (by omega) (by omega) (by rw [h4]; simp) e5 (by show _ ≤ Tj.1; omega) (by show Tj.1 ≤ _; omega) (by show Tj.2.1 ≤ _; omega) (fun p' hp' => (sT_n (by have hp2 : 8 + Tj.1 ≤ p' := hp'; omega)).trans ((t5 p' (by have hp2 : 8 + Tj.1 ≤ p' := hp'; omega)).trans (h9 p' (by have hp2 : 8 + Tj.1 ≤ p' := hp'; omega)))) sT_s s2
            rw [List.length_append, List.length_singleton] at this
            exact this
  obtain ⟨Tf, fk', l1, l2, l3, l4, l5, l6, l7, l8⟩ := lp r.2 N 0 [] T1 (fun _ => none) rfl (by omega) (by omega) rfl (fun p hp' => b3 p (by omega)) (by omega) (by omega) (by omega) (fun p hp' => by rw [b3 p (by omega)]; exact hT p (by omega)) b2 (fun j x hx => by cases hx)
  rw [List.length_nil, nI_0] at l1
  -- the new RULES
  obtain ⟨T2, hT2⟩ : ∃ T2, T2 = aT Tf (.inr (3, [LI 0, LR none, LR none])) 3 := ⟨_, rfl⟩
  have d1 : T2.1 = Tf.1 + 1 ∧ T2.2.1 = Tf.2.1 + 3 := by subst hT2; exact ⟨rfl, rfl⟩
  have d2 : T2.2.2 (8 + Tf.1) = .inr (3, [LI 0, LR none, LR none]) := by subst hT2; exact aT_s
  have d3 : ∀ p, p ≠ 8 + Tf.1 → T2.2.2 p = Tf.2.2 p := by subst hT2; exact fun p hp' => aT_n hp'
  have hal : al (hp X C M Tf) (.inr (3, [LI 0, LR none, LR none])) 3 = hp X C M T2 := by rw [hT2]; exact al_hp (by omega)
  have hL2 : ∀ x ∈ clsL c 0 r.2, x.1 < 2 := by
    have : ∀ (l : List LNV) (i : Nat), (∀ x ∈ l, x.1 < 2) → ∀ x ∈ clsL c i l, x.1 < 2 := by
      intro l
      induction l with
      | nil => intro i _ x hx; cases hx
      | cons y l ih =>
        intro i h x hx
        have e : clsL c i (y :: l) = if cb c i 0 then clsL c (i + 1) l else (if cb c i 1 then turnL y else y) :: clsL c (i + 1) l := rfl
        rw [e] at hx
        have hy := h y List.mem_cons_self
        have hl := ih (i + 1) (fun z hz => h z (List.mem_cons_of_mem _ hz))
        split at hx
        · exact hl x hx
        · rcases List.mem_cons.mp hx with rfl | hx
          · split
            · show 1 - y.1 < 2; omega
            · exact hy
          · exact hl x hx
    exact this r.2 0 (fun x hx => (w3 x hx).1)
  have hA : LsA T2 (8 + T.1) K (clsL c 0 r.2) := by
    refine ⟨kq59, hK.symm, fk', (d3 _ (by omega)).trans l7, fun i x hx => ⟨hL2 x (List.mem_of_getElem? hx), ?_⟩⟩
    obtain ⟨p, p1, p2⟩ := l8 i x hx
    obtain ⟨p59, p8⟩ := p2.hi
    obtain ⟨y0, w, f, y1, y2, -⟩ := p2
    rw [gD_hi p59] at y2
    exact ⟨p, _, p1, p59, (d3 _ (by omega)).trans y2⟩
  obtain ⟨fo', T3, e1, e2, e3, e4, e5, e6, e7⟩ := k_rules_init (X := X) (C := C) (M := M) (T := T2) N hN (q := 8 + Tf.1) (ql := 8 + T.1) (n := K) (how := r.1) (by omega) (by omega) (by omega) d2 hA (by omega) w1
  have hnew : ∀ p, p < 8 + T.1 → T3.2.2 p = T.2.2 p := fun p hp' => by rw [e6 p (by omega) (by omega), d3 p (by omega)]; exact l2 p hp'
  refine ⟨T3, 8 + Tf.1, ?_, ?_, by omega, by omega, by omega, by omega, hnew, fun p hp' => ?_, fun x hx => by have := hmu x hx; omega⟩
  · refine ch_ab N (isO_at ((gcD (by have := z0.2; omega)).trans z3)) (gR1 T (fun _ _ => rfl)) (gL T (fun _ _ => rfl)) hbc (A1 := hp X C M T1) ?_ ?_
    · rw [pk_sub (by omega), hKn, mmx_n (by omega)]; exact nr
    · rw [hn_hp]
      refine l1.trans (ch_102 N hal ?_ e1)
      refine gI0 T2 (fun p hp' => ?_)
      rw [d3 p (by omega)]; exact l2 p hp'
  · have ex3 : Ex ((8 + T.1) :: mu) Tf mu T3 := fun y hy => by
      have hy2 := hy.2
      refine ⟨⟨fun z => hy.1 (List.mem_cons_of_mem _ z), by omega⟩, ?_⟩
      by_cases y59 : y < 62
      · exact gD_lo y59
      · rw [gD_hi (by omega), gD_hi (by omega), e6 y (by omega) (by omega), d3 y (by omega)]
    have nm : ∀ p, 8 + T.1 ≤ p → p ∉ mu := fun p hp' z => by have := hmu p z; omega
    refine ⟨⟨nm _ (by omega), by omega⟩, 8 + T.1, 8 + T2.1, fk', fo', ⟨nm _ (by omega), by omega⟩, ⟨nm _ (by omega), by omega⟩, (gD_hi (by omega)).trans e4, (gD_hi kq59).trans ?_, (gD_hi (by omega)).trans ?_, fun i x hx => ?_, e7⟩
    · rw [e6 _ (by omega) (by omega), d3 _ (by omega), l7, hK]
    · rw [e5, hK]
    · obtain ⟨p, p1, p2⟩ := l8 i x hx
      exact ⟨p, p1, p2.ex ex3⟩
  · rw [e6 p (by omega) (by omega), d3 p (by omega)]; exact l6 p (by omega)
end OAP
