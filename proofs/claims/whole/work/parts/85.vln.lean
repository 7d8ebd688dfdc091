/-! the class reads a line -/
section VLN
variable {X : XS} {C : CS} {M : MS} {T T0 : TS} {tp : List Nat} {τ : TOK} {N : Nat} {r : Nat ⊕ SN} {mu : List Nat}
theorem ln_link {s0 : SN} {v1 v2 v3 v4 v5 v6 : Nat} {R1 R2 R3 R4 R5 R6 : Nat ⊕ (Nat × SN)} {R7 R8 : Nat ⊕ (List STP × SN)} (e1 : R1 = sCh tp 303 304 s0) (e2 : R2 = bdr (tlr R1) (sCh tp 305 309)) (e3 : R3 = bdr (tlr R2) (sNum tp (topW v2))) (e4 : R4 = bdr (tlr R3) (sCh tp 310 314)) (e5 : R5 = bdr (tlr R4) (sWhat tp)) (e6 : R6 = bdr (tlr R5) (sNum tp (topA v5))) (e7 : R7 = bdr (tlr R6) (sWhen tp)) (e8 : R8 = bdr R7 fun x => bdr (sNeed tp 59 x.2) fun s => .inr (x.1, s))
    (h1 : ∀ x, R1 = .inr x → v1 = x.1) (h2 : ∀ x, R2 = .inr x → v2 = x.1) (h3 : ∀ x, R3 = .inr x → v3 = x.1) (h4 : ∀ x, R4 = .inr x → v4 = x.1) (h5 : ∀ x, R5 = .inr x → v5 = x.1) (h6 : ∀ x, R6 = .inr x → v6 = x.1) :
    (bdr (sCh tp 303 304 s0) fun r1 => bdr (sCh tp 305 309 r1.2) fun r2 => bdr (sNum tp (topW r2.1) r2.2) fun r3 => bdr (sCh tp 310 314 r3.2) fun r4 => bdr (sWhat tp r4.2) fun r5 => bdr (sNum tp (topA r5.1) r5.2) fun r6 => bdr (sWhen tp r6.2) fun r7 => bdr (sNeed tp 59 r7.2) fun r8 => .inr ((r1.1, r2.1, r3.1, r4.1, r5.1, r6.1, r7.1), r8) : Nat ⊕ (LNV × SN)) = bdr R8 fun x => .inr ((v1, v2, v3, v4, v5, v6, x.1), x.2) := by
  rw [← e1]
  cases R1 with
  | inl e => subst e2; subst e3; subst e4; subst e5; subst e6; subst e7; subst e8; rfl
  | inr x1 =>
    obtain rfl := h1 x1 rfl
    have e2 : R2 = sCh tp 305 309 x1.2 := e2
    show bdr (sCh tp 305 309 x1.2) _ = _
    rw [← e2]
    cases R2 with
    | inl e => subst e3; subst e4; subst e5; subst e6; subst e7; subst e8; rfl
    | inr x2 =>
      obtain rfl := h2 x2 rfl
      have e3 : R3 = sNum tp (topW x2.1) x2.2 := e3
      show bdr (sNum tp (topW x2.1) x2.2) _ = _
      rw [← e3]
      cases R3 with
      | inl e => subst e4; subst e5; subst e6; subst e7; subst e8; rfl
      | inr x3 =>
        obtain rfl := h3 x3 rfl
        have e4 : R4 = sCh tp 310 314 x3.2 := e4
        show bdr (sCh tp 310 314 x3.2) _ = _
        rw [← e4]
        cases R4 with
        | inl e => subst e5; subst e6; subst e7; subst e8; rfl
        | inr x4 =>
          obtain rfl := h4 x4 rfl
          have e5 : R5 = sWhat tp x4.2 := e5
          show bdr (sWhat tp x4.2) _ = _
          rw [← e5]
          cases R5 with
          | inl e => subst e6; subst e7; subst e8; rfl
          | inr x5 =>
            obtain rfl := h5 x5 rfl
            have e6 : R6 = sNum tp (topA x5.1) x5.2 := e6
            show bdr (sNum tp (topA x5.1) x5.2) _ = _
            rw [← e6]
            cases R6 with
            | inl e => subst e7; subst e8; rfl
            | inr x6 =>
              obtain rfl := h6 x6 rfl
              have e7 : R7 = sWhen tp x6.2 := e7
              show bdr (sWhen tp x6.2) _ = _
              rw [← e7]
              cases R7 with
              | inl e => subst e8; rfl
              | inr x7 =>
                have e8 : R8 = bdr (sNeed tp 59 x7.2) fun s => .inr (x7.1, s) := e8
                rw [e8]
                show bdr (sNeed tp 59 x7.2) _ = _
                cases sNeed tp 59 x7.2 with
                | inl e => rfl
                | inr x8 => rfl
/-- the steps of the 'when' at hand, well or not -/
def SvW (tp : List Nat) (C : CS) (R : Nat ⊕ (List STP × SN)) : Prop := match R with
  | .inl e => Dead tp C e 19
  | .inr x => Live tp C x.2.2 x.1 ∧ NTc x.2.1 C
theorem v_when (hN : 700 ≤ N) (h : Sv tp C r) (K : LH → Option LH) : ∃ C', ((f_X2_takes N (hp X (c0 C 6 0) M T) (some 11) (318 : Int32)).bind fun p29 => if p29.1 = 0 then K p29.2 else (F_X2_readEither N 8 p29.2 (some 11) (1 : Int32)).bind fun p59 => K p59) = K (hp X C' M T) ∧ SvW tp C' (bdr r (sWhen tp)) ∧ CFr C C' := by
  have cf : CFr C (c0 C 6 0) := CFr.rf.c0 (by decide)
  cases r with
  | inl e =>
    have hd : Dead tp (c0 C 6 0) e 19 := ⟨h.1.cf cf, by rw [c0_n (by decide)]; exact h.2.1, by rw [c0_n (by decide)]; exact h.2.2.1, by rw [c0_n (by decide)]; exact h.2.2.2, 0, c0_s, by omega⟩
    exact ⟨c0 C 6 0, (bnd_eq (d_takes (k := 318) hd (by decide) (by decide))).trans (if_pos rfl), hd, cf⟩
  | inr s =>
    obtain ⟨h1, h2, h3, h4⟩ := h
    have hv : Live tp (c0 C 6 0) s.2 [] := ⟨h1.cf cf, h2.fr (fun j hj => c0_n (by omega)) (fun _ _ => rfl), h3, c0_s, Nat.zero_le _, fun i x z => (nomatch z), by rw [c0_n (by decide)]; exact h4.n1⟩
    have hn : NTc s.1 (c0 C 6 0) := h4.k (c0_n (by decide)) (c0_n (by decide))
    show ∃ C', _ ∧ SvW tp C' (sWhen tp s) ∧ _
    unfold sWhen
    by_cases hk : s.2.1 = 318
    · rw [if_pos hk]
      obtain ⟨C1, a1, a2, a3⟩ := l_takes (X := X) (M := M) (T := T) (k := 318) hN hv hk
      have hh := (kp_E (X := X) (M := M) (T := T) hN h1.2.2 6 8 (by decide) (by decide)).1 C1 (nx tp s.2) [] a2
      cases hp' : pE tp 6 (nx tp s.2) with
      | inl e =>
        rw [hp'] at hh
        obtain ⟨C2, b1, b2, b3⟩ := hh
        exact ⟨C2, (bnd_eq a1).trans ((if_neg i1_ne).trans (bnd_eq b1)), b2, (cf.tr a3.2.2).tr b3⟩
      | inr p =>
        rw [hp'] at hh
        obtain ⟨C2, b1, b2, b3⟩ := hh
        exact ⟨C2, (bnd_eq a1).trans ((if_neg i1_ne).trans (bnd_eq b1)), ⟨b2, (hn.k a3.1 a3.2.1).k b3.1 b3.2.1⟩, (cf.tr a3.2.2).tr b3.2.2⟩
    · rw [if_neg hk]
      exact ⟨c0 C 6 0, (bnd_eq (l_takes_f (k := 318) hv hk (by decide))).trans (if_pos rfl), ⟨hv, hn⟩, cf⟩
theorem v_needsW {R : Nat ⊕ (List STP × SN)} (hN : 700 ≤ N) (h : SvW tp C R) : ∃ C', f_X2_needs N (hp X C M T) (some 11) (59 : Int32) = some (hp X C' M T) ∧ SvW tp C' (bdr R fun x => bdr (sNeed tp 59 x.2) fun s => .inr (x.1, s)) ∧ CFr C C' := by
  cases R with
  | inl e =>
    obtain ⟨C1, a1, a2, a3⟩ := d_needs (X := X) (M := M) (T := T) (N := N) (k := 59) h (by decide) (by decide)
    exact ⟨C1, a1, a2, a3⟩
  | inr x =>
    show ∃ C', _ ∧ SvW tp C' (bdr (sNeed tp 59 x.2) fun s => .inr (x.1, s)) ∧ _
    unfold sNeed
    by_cases hk : x.2.2.1 = 59
    · rw [if_pos hk]
      obtain ⟨C1, a1, a2, a3⟩ := l_needs (X := X) (M := M) (T := T) (k := 59) hN h.1 hk
      exact ⟨C1, a1, ⟨a2, h.2.k a3.1 a3.2.1⟩, a3.2.2⟩
    · rw [if_neg hk]
      obtain ⟨C1, a1, a2, a3⟩ := l_needs_f (X := X) (M := M) (T := T) (N := N) (k := 59) (bd := 19) h.1 hk (by decide)
      exact ⟨C1, a1, a2, a3⟩
theorem SvW.st {R : Nat ⊕ (List STP × SN)} (h : SvW tp C R) : Sv tp C (tlr R) ∧ ∃ s, C.1 6 = nI s ∧ s < 600 ∧ ∀ x, R = .inr x → s = x.1.length ∧ ∀ (i : Nat) (y : STP), x.1[i]? = some y → C.2.1 1 i = nI (encS y) := by
  cases R with
  | inl e =>
    obtain ⟨h1, h2, h3, h4, s, h5, h6⟩ := h
    exact ⟨⟨h1, h2, h3, h4⟩, s, h5, by omega, fun x z => (nomatch z)⟩
  | inr x =>
    obtain ⟨⟨h1, h2, h3, h4, h5, h6, h7⟩, h8⟩ := h
    refine ⟨⟨h1, h2, h3, h8⟩, x.1.length, h4, ?_, fun y z => by cases z; exact ⟨rfl, h6⟩⟩
    have := h3.1; have := h3.2.1; have := h1.2.1
    omega
theorem cp_ab {A A1 A2 : LH} {a : Option Nat} {v l : Int32} (h1 : ln6 A a = some l) (h2 : ¬ v = l) (h3 : nI_ A 0 v = some A1) (h4 : ln6 A1 a = some l) (h5 : cpI A1 a 0 (some (8 + hn A)) 0 (mmn l v) = some A2) : f_J7_copyOf_59c91 A a v = some (some (8 + hn A), A2) := by
  unfold f_J7_copyOf_59c91 b_J7_copyOf_59c91
  rw [bnd_eq h1, if_neg h2, bnd_eq h3, bnd_eq h4, bnd_eq h5]
/-- the steps copied -/
theorem k_copy {s : Nat} (h51 : 54 ≤ T.1) (hs : s < 600) : ∃ T' f, f_J7_copyOf_59c91 (hp X C M T) (some 17) (nI s) = some (some (8 + T.1), hp X C M T') ∧ T'.1 = T.1 + 1 ∧ T'.2.1 = T.2.1 + s ∧ T'.2.2 (8 + T.1) = .inl (0, s, .inl f) ∧ (∀ p, p ≠ 8 + T.1 → T'.2.2 p = T.2.2 p) ∧ ∀ i, i < s → f i = C.2.1 1 i := by
  have h59 : 62 ≤ 8 + T.1 := by omega
  have hm : mmn (nI 600) (nI s) = nI s := if_pos (nI_lt hs (by decide))
  have hc := cpI_at (A := hp X C M (aT T (.inl (0, s, .inl fun _ => 0)) s)) (q0 := 17) (q1 := 8 + T.1) (k := s) gc_17 ((gc_hp h59).trans aT_s) (by decide) (by omega) (by omega) (Nat.le_refl _) (by omega)
  rw [sc_hp h59] at hc
  refine ⟨_, _, cp_ab ln_17 (show ¬ nI s = nI 600 from ne_nI (by omega) (by omega) (by decide)) (nI_hp h51 (by omega)) ln_17 (by rw [hm]; exact hc), rfl, rfl, sT_s, fun p hp' => ?_, fun i hi => ?_⟩
  · rw [sT_n hp', aT_n hp']
  · exact va_c0 hi
theorem rl_st {A A1 A2 A3 A4 : LH} {q x1 x2 w : Option Nat} {v1 v2 v3 v4 v5 v6 c s : Int32} (h0 : f_X2_needs N A q 59 = some A1) (h1 : gI A1 q 2 3 = some c) (h2 : ¬ (12 : Int32) ≤ c) (h3 : gR A1 q 2 2 = some x1) (h4 : gI A1 q 2 4 = some s) (h5 : f_J7_copyOf_59c91 A1 x1 (mmx 0 s) = some (w, A2)) (h6 : gR A2 q 2 1 = some x2) (h7 : gI A2 q 2 3 = some c) (h8 : f_X0_init (al A2 (.inr (0, [LI 0, LI 0, LI 0, LI 0, LI 0, LI 0, LR none])) 7) (some (8 + hn A2)) v1 v2 v3 v4 v5 v6 w = some A3) (h9 : sR A3 x2 3 0 c (some (8 + hn A2)) = some A4) (h10 : gI A4 q 2 3 = some c) : b_X2_readLine_125 N A q v1 v2 v3 v4 v5 v6 = (pF A4 q 2 3 (LI (c + 1))).bind fun A57 => some A57 := by
  unfold b_X2_readLine_125
  rw [bnd_eq h0, bnd_eq h1, if_neg h2, bnd_eq h3, bnd_eq h4, bnd_eq h5, bnd_eq h6, bnd_eq h7, bnd_eq h8, bnd_eq h9, bnd_eq h10]
theorem rl_12 {A A1 : LH} {q : Option Nat} {v1 v2 v3 v4 v5 v6 c : Int32} (h0 : f_X2_needs N A q 59 = some A1) (h1 : gI A1 q 2 3 = some c) (h2 : (12 : Int32) ≤ c) : b_X2_readLine_125 N A q v1 v2 v3 v4 v5 v6 = some A1 := by
  unfold b_X2_readLine_125
  rw [bnd_eq h0, bnd_eq h1, if_pos h2]
/-- the line is kept -/
theorem k_store {C1 : CS} {c s v1 v2 v3 v4 v5 v6 : Nat} (h51 : 54 ≤ T.1) (h0 : f_X2_needs N (hp X C M T) (some 11) 59 = some (hp X C1 M T)) (hc5 : C1.1 5 = nI c) (hc : c < 12) (h6 : C1.1 6 = nI s) (hs : s < 600) (hv1 : v1 < 2) : ∃ T' f, b_X2_readLine_125 N (hp X C M T) (some 11) (nI v1) (nI v2) (nI v3) (nI v4) (nI v5) (nI v6) = some (hp X (c0 (cr C1 0 (va_up (C1.2.2 0) c (some (9 + T.1)))) 5 (nI (c + 1))) M T') ∧ T'.1 = T.1 + 2 ∧ T'.2.1 = T.2.1 + s + 7 ∧ T'.2.2 (8 + T.1) = .inl (0, s, .inl f) ∧ T'.2.2 (9 + T.1) = .inr (0, [LI (nI v1), LI (nI v2), LI (nI v3), LI (nI v4), LI (nI v5), LI (nI v6), LR (some (8 + T.1))]) ∧ (∀ p, p ≠ 8 + T.1 → p ≠ 9 + T.1 → T'.2.2 p = T.2.2 p) ∧ ∀ i, i < s → f i = C1.2.1 1 i := by
  obtain ⟨T1, f, k1, k2, k3, k4, k5, k6⟩ := k_copy (X := X) (C := C1) (M := M) h51 hs
  obtain ⟨T2, l1, l2, l3, l4, l5⟩ := k_lnNew (X := X) (C := C1) (M := M) (T := T1) (l := (v1, v2, v3, v4, v5, v6, [])) (w := 8 + T.1) (by omega) hv1
  have e9 : 8 + T1.1 = 9 + T.1 := by omega
  rw [e9] at l1 l4 l5
  have hcell : gc (hp X C1 M T2) (9 + T.1) = .inr (0, _) := (gc_hp (by omega)).trans l4
  have hal : al (hp X C1 M T1) (.inr (0, [LI 0, LI 0, LI 0, LI 0, LI 0, LI 0, LR none])) 7 = hp X C1 M (aT T1 (.inr (0, [LI 0, LI 0, LI 0, LI 0, LI 0, LI 0, LR none])) 7) := al_hp (by omega)
  have hhn : 8 + hn (hp X C1 M T1) = 9 + T.1 := by rw [hn_hp]; exact e9
  have s1 : sR (hp X C1 M T2) (some 16) 3 0 (nI c) (some (9 + T.1)) = some (hp X (cr C1 0 (va_up (C1.2.2 0) c (some (9 + T.1)))) M T2) := by
    rw [sR_at gc_16 hc (by decide) (by decide) hcell (by omega), sc_16]
  have st := rl_st (N := N) (v1 := nI v1) (v2 := nI v2) (v3 := nI v3) (v4 := nI v4) (v5 := nI v5) (v6 := nI v6) h0 (gi_11_3.trans (congrArg some hc5)) (show ¬ nI 12 ≤ nI c from nI_ge hc (by decide)) gr_11_2 (gi_11_4.trans (congrArg some h6)) (by rw [mmx_n (by omega)]; exact k1) gr_11_1 (gi_11_3.trans (congrArg some hc5)) (A3 := hp X C1 M T2) (by rw [hhn, hal]; exact l1) (A4 := hp X (cr C1 0 (va_up (C1.2.2 0) c (some (9 + T.1)))) M T2) (by rw [hhn]; exact s1) (gi_11_3.trans (congrArg some hc5))
  refine ⟨T2, f, st.trans ?_, by omega, by omega, ?_, l4, fun p hp1 hp2 => ?_, k6⟩
  · rw [nI_1]; exact bnd_eq (pi_11_3 _)
  · rw [l5 _ (by omega)]; exact k4
  · rw [l5 p hp2]; exact k5 p hp1
end VLN
