/-! the text taken apart: the reference takes a step -/
section TKN
variable {X : XS} {C : CS} {M : MS} {T : TS} {tp : List Nat}
theorem m0_s {k : Nat} {v : Int32} : (m0 M k v).1 k = v := by rw [m0_1, up_s]
theorem m0_n {k j : Nat} {v : Int32} (h : j ≠ k) : (m0 M k v).1 j = M.1 j := by rw [m0_1, up_n _ _ h]
/-- nothing but the token changes -/
def MT (M M' : MS) : Prop := (∀ j, j < 18 ∨ j = 19 ∨ 22 < j → M'.1 j = M.1 j) ∧ M'.2.2 = M.2.2
theorem MT.rf : MT M M := ⟨fun _ _ => rfl, rfl⟩
theorem MT.tr {M' M2 : MS} (h : MT M M') (h2 : MT M' M2) : MT M M2 := ⟨fun j hj => (h2.1 j hj).trans (h.1 j hj), h2.2.trans h.2⟩
theorem MT.st {M' : MS} {k : Nat} {v : Int32} (h : MT M M') (h1 : k = 18 ∨ k = 20 ∨ k = 21 ∨ k = 22) : MT M (m0 M' k v) := ⟨fun j hj => (m0_n (by omega)).trans (h.1 j hj), h.2⟩
theorem MT.wd {M' : MS} {v : Int64} (h : MT M M') : MT M (M'.1, v, M'.2.2) := h
theorem MP.mt {M' : MS} (h : MP tp M) (h2 : MT M M') : MP tp M' := by
  refine ⟨?_, h.2⟩
  rw [h2.1 19 (Or.inr (Or.inl rfl)), h2.2]; exact h.1
theorem m_see {i : Nat} (h : MP tp M) (h8 : M.1 18 = nI i) (hi : i ≤ tp.length) : f_X11_see (hp X C M T) (some 35) = some (sg tp i) := by
  obtain ⟨⟨h1, h2⟩, h3, h4⟩ := h
  cases e : tp[i]? with
  | none =>
    rw [sg_n e]
    have hl := List.getElem?_eq_none_iff.mp e
    exact se_e io_35 (gi_35_18.trans (congrArg some h8)) (gi_35_19.trans (congrArg some h1)) (nI_le hl (by omega))
  | some c =>
    rw [sg_s e, ← h2 i c e]
    have hl := at_lt e
    exact se_i io_35 (gi_35_18.trans (congrArg some h8)) (gi_35_19.trans (congrArg some h1)) (nI_ge hl (by omega)) gr_35_1 (ai_36 (by omega))
theorem mi_rng {a b c : Nat} (hb : b < 256) (h : c < 256) (ha : a < 256) : f_X11_in (nI c) (nI a) (nI b) = some (b01 (decide (a ≤ c ∧ c ≤ b))) := by
  have := rng hb h ha
  unfold f_X11_in b_X11_in
  rw [this, zd_b]
theorem mi_l {c : Nat} (h : c < 256) : f_X11_in (nI c) 97 122 = some (b01 (lL c)) := mi_rng (a := 97) (b := 122) (by decide) h (by decide)
theorem mi_d {c : Nat} (h : c < 256) : f_X11_in (nI c) 48 57 = some (b01 (dL c)) := mi_rng (a := 48) (b := 57) (by decide) h (by decide)
theorem mi_n : f_X11_in (-1) 97 122 = some 0 ∧ f_X11_in (-1) 48 57 = some 0 := by decide
theorem m_letters (N : Nat) : ∀ (n i m d : Nat) (M : MS), MP tp M → M.1 18 = nI i → i ≤ tp.length → spn lL tp i = n → n < m → d + n < 1000 → ∃ M', l_X11_next_79 N m (hp X C M T) (some 35) (nI d) = some (hp X C M' T) ∧ M'.1 18 = nI (i + n) ∧ M'.1 20 = M.1 20 ∧ M'.1 21 = 2 ∧ M'.2.1 = (if d + n ≤ 8 then ((tp.drop i).takeWhile lL).foldl (fun (a : Int64) c => (a <<< (((8 : Int32)).toInt64 &&& 63)) ||| (nI c).toInt64) M.2.1 else 0) ∧ MT M M' := by
  intro n
  induction n with
  | zero =>
    intro i m d M h h8 hl hs hm hd
    obtain ⟨m', rfl⟩ : ∃ m', m = m' + 1 := ⟨m - 1, by omega⟩
    have ha := m_see (X := X) (C := C) (T := T) h h8 hl
    have hin : f_X11_in (sg tp i) 97 122 = some 0 := by
      rcases spn_0 hs with e | ⟨c, e, hc⟩
      · rw [sg_n e]; exact mi_n.1
      · rw [sg_s e, mi_l (h.b e), hc]; rfl
    have ht : (tp.drop i).takeWhile lL = [] := List.eq_nil_of_length_eq_zero hs
    rw [ht]
    by_cases h3 : d ≤ 8
    · refine ⟨m0 (M.1, M.2.1, M.2.2) 21 2, ?_, ?_, ?_, m0_s, ?_, (MT.rf.wd).st (by decide)⟩
      · show b_X11_next_79 N _ _ _ _ = _
        exact nl_e1 ha hin rfl (show nI d ≤ nI 8 from nI_le h3 (by decide)) gj_35_23 (pj_35_23 _) (pi_35_21 _)
      · rw [m0_n (by decide)]; exact h8
      · rw [m0_n (by decide)]
      · rw [if_pos (show d + 0 ≤ 8 from h3)]; rfl
    · refine ⟨m0 (M.1, 0, M.2.2) 21 2, ?_, ?_, ?_, m0_s, ?_, (MT.rf.wd).st (by decide)⟩
      · show b_X11_next_79 N _ _ _ _ = _
        exact nl_e2 ha hin rfl (show ¬ nI d ≤ nI 8 from nI_ge (by omega) (by omega)) (pj_35_23 _) (pi_35_21 _)
      · rw [m0_n (by decide)]; exact h8
      · rw [m0_n (by decide)]
      · rw [if_neg (show ¬ d + 0 ≤ 8 from h3)]; rfl
  | succ n ih =>
    intro i m d M h h8 hl hs hm hd
    obtain ⟨m', rfl⟩ : ∃ m', m = m' + 1 := ⟨m - 1, by omega⟩
    obtain ⟨c, e, hc, hs'⟩ := spn_1 hs
    have ha := m_see (X := X) (C := C) (T := T) h h8 hl
    rw [sg_s e] at ha
    have hb := mi_l (h.b e)
    rw [hc] at hb
    have hlt := at_lt e
    have st : MT M (m0 (M.1, ((M.2.1 <<< (((8 : Int32)).toInt64 &&& 63)) ||| (nI c).toInt64), M.2.2) 18 (nI (i + 1))) := (MT.rf.wd).st (by decide)
    obtain ⟨M', k1, k2, k3, k4, k5, k6⟩ := ih (i + 1) m' (d + 1) (m0 (M.1, ((M.2.1 <<< (((8 : Int32)).toInt64 &&& 63)) ||| (nI c).toInt64), M.2.2) 18 (nI (i + 1))) (h.mt st) m0_s (by omega) hs' (by omega) (by omega)
    refine ⟨M', ?_, by rw [k2]; congr 1; omega, by rw [k3, m0_n (by decide)], k4, ?_, st.tr k6⟩
    · show b_X11_next_79 N _ _ _ _ = _
      rw [nl_t ha hb (by decide) gj_35_23 (pj_35_23 _) (p := nI i) (by rw [gi_35_18]; exact congrArg some h8) (A2 := hp X C (m0 (M.1, ((M.2.1 <<< (((8 : Int32)).toInt64 &&& 63)) ||| (nI c).toInt64), M.2.2) 18 (nI (i + 1))) T) (by rw [nI_1]; exact pi_35_18 _), nI_1]
      exact k1
    · rw [k5, dr_s e, List.takeWhile_cons_of_pos hc, List.foldl_cons, show d + 1 + n = d + (n + 1) by omega]; rfl
theorem m_digits (N : Nat) {p : Nat} : ∀ (n i m : Nat) (M : MS), MP tp M → M.1 18 = nI i → M.1 22 = nI (dg3 tp p i) → p ≤ i → i ≤ tp.length → (∀ c ∈ (tp.drop p).take (i - p), dL c = true) → spn dL tp i = n → n < m → ∃ M', l_X11_next_170 N m (hp X C M T) (some 35) (nI (i - p)) = some (hp X C M' T) ∧ M'.1 18 = nI (i + n) ∧ M'.1 20 = M.1 20 ∧ M'.1 21 = (if i - p + n ≤ 3 then 3 else 1) ∧ M'.1 22 = nI (dg3 tp p (i + n)) ∧ MT M M' := by
  intro n
  induction n with
  | zero =>
    intro i m M h h8 h22 hpi hl hd hs hm
    obtain ⟨m', rfl⟩ : ∃ m', m = m' + 1 := ⟨m - 1, by omega⟩
    have h6 := h.2.1
    have ha := m_see (X := X) (C := C) (T := T) h h8 hl
    have hin : f_X11_in (sg tp i) 48 57 = some 0 := by
      rcases spn_0 hs with e | ⟨c, e, hc⟩
      · rw [sg_n e]; exact mi_n.2
      · rw [sg_s e, mi_d (h.b e), hc]; rfl
    by_cases h3 : i - p ≤ 3
    · refine ⟨m0 M 21 3, ?_, ?_, ?_, ?_, ?_, MT.rf.st (by decide)⟩
      · show b_X11_next_170 N _ _ _ _ = _
        exact nd_e1 ha hin rfl (show nI (i - p) ≤ nI 3 from nI_le h3 (by decide)) (pi_35_21 _)
      · rw [m0_n (by decide)]; exact h8
      · rw [m0_n (by decide)]
      · rw [m0_s, if_pos (show i - p + 0 ≤ 3 from h3)]
      · rw [m0_n (by decide)]; exact h22
    · refine ⟨m0 M 21 1, ?_, ?_, ?_, ?_, ?_, MT.rf.st (by decide)⟩
      · show b_X11_next_170 N _ _ _ _ = _
        exact nd_e2 ha hin rfl (show ¬ nI (i - p) ≤ nI 3 from nI_ge (by omega) (by omega)) (pi_35_21 _)
      · rw [m0_n (by decide)]; exact h8
      · rw [m0_n (by decide)]
      · rw [m0_s, if_neg (show ¬ i - p + 0 ≤ 3 from h3)]
      · rw [m0_n (by decide)]; exact h22
  | succ n ih =>
    intro i m M h h8 h22 hpi hl hd hs hm
    obtain ⟨m', rfl⟩ : ∃ m', m = m' + 1 := ⟨m - 1, by omega⟩
    have h6 := h.2.1
    obtain ⟨c, e, hc, hs'⟩ := spn_1 hs
    have ha := m_see (X := X) (C := C) (T := T) h h8 hl
    rw [sg_s e] at ha
    have hb := mi_d (h.b e)
    rw [hc] at hb
    have hlt := at_lt e
    have hts := tk_s hpi e
    have hd' : ∀ x ∈ (tp.drop p).take (i + 1 - p), dL x = true := by
      rw [hts]
      intro x hx
      rcases List.mem_append.mp hx with h1 | h1
      · exact hd x h1
      · rw [List.mem_singleton.mp h1]; exact hc
    have hln : ((tp.drop p).take (i - p)).length = i - p := by rw [List.length_take, List.length_drop]; omega
    have st : MT M (m0 (m0 M 22 (nI (dg3 tp p (i + 1)))) 18 (nI (i + 1))) := (MT.rf.st (by decide)).st (by decide)
    obtain ⟨M', k1, k2, k3, k4, k5, k6⟩ := ih (i + 1) m' (m0 (m0 M 22 (nI (dg3 tp p (i + 1)))) 18 (nI (i + 1))) (h.mt st) m0_s (by rw [m0_n (by decide), m0_s]) (by omega) (by omega) hd' hs' (by omega)
    rw [show i + 1 - p = i - p + 1 by omega] at k1 k4
    rw [show i + 1 + n = i + (n + 1) by omega] at k2 k5
    refine ⟨M', ?_, k2, by rw [k3, m0_n (by decide), m0_n (by decide)], by rw [k4, show i - p + 1 + n = i - p + (n + 1) by omega], k5, st.tr k6⟩
    show b_X11_next_170 N _ _ _ _ = _
    by_cases h3' : i - p < 3
    · have hv : dg3 tp p (i + 1) = dg3 tp p i * 10 + (c - 48) := by
        unfold dg3
        rw [hts, List.take_of_length_le (by rw [List.length_append, hln, List.length_singleton]; omega), List.take_of_length_le (l := (tp.drop p).take (i - p)) (by rw [hln]; omega), dv_]
      have hcv := of_decide_eq_true (show decide (48 ≤ c ∧ c ≤ 57) = true from hc)
      have hval : (10 : Int32) * nI (dg3 tp p i) + nI c - (48 : Int32) = nI (dg3 tp p (i + 1)) := by
        rw [hv, show (10 : Int32) = nI 10 by decide, show (48 : Int32) = nI 48 by decide, nI_ml, nI_add, nI_sub' (by omega), show 10 * dg3 tp p i + c - 48 = dg3 tp p i * 10 + (c - 48) by omega]
      rw [nd_t ha hb (by decide) (show ¬ nI 3 ≤ nI (i - p) from nI_ge h3' (by decide)) (w := nI (dg3 tp p i)) (gi_35_22.trans (congrArg some h22)) (A1 := hp X C (m0 M 22 (nI (dg3 tp p (i + 1)))) T) (by rw [hval]; exact pi_35_22 _) (p := nI i) (by rw [gi_35_18, m0_n (by decide), h8]) (A2 := hp X C (m0 (m0 M 22 (nI (dg3 tp p (i + 1)))) 18 (nI (i + 1))) T) (by rw [nI_1]; exact pi_35_18 _), nI_1]
      exact k1
    · have hv : dg3 tp p (i + 1) = dg3 tp p i := by
        unfold dg3
        rw [hts, List.take_append_of_le_length (by rw [hln]; omega)]
      rw [nd_o ha hb (by decide) (show nI 3 ≤ nI (i - p) from nI_le (by omega) (by omega)) (w := nI (dg3 tp p i)) (gi_35_22.trans (congrArg some h22)) (A1 := hp X C (m0 M 22 (nI (dg3 tp p (i + 1)))) T) (by rw [hv]; exact pi_35_22 _) (p := nI i) (by rw [gi_35_18, m0_n (by decide), h8]) (A2 := hp X C (m0 (m0 M 22 (nI (dg3 tp p (i + 1)))) 18 (nI (i + 1))) T) (by rw [nI_1]; exact pi_35_18 _), nI_1]
      exact k1
/-- how the reference holds a token of kind k -/
def SK (sort val : Int32) (wd : Int64) (k num : Nat) : Prop := (k = 0 ∧ sort = 0) ∨ (k = 1 ∧ sort = 3 ∧ val = nI num) ∨ (k = 2 ∧ sort = 1) ∨ (gL k = true ∧ sort = 4 ∧ val = nI k) ∨ ∃ w, (∀ c ∈ w, lL c = true) ∧ sort = 2 ∧ wd = wK w ∧ k = kOf w
def TM (M : MS) (τ : TOK) : Prop := SK (M.1 21) (M.1 22) M.2.1 τ.1 τ.2.1 ∧ M.1 20 = nI τ.2.2.1 ∧ M.1 18 = nI τ.2.2.2
theorem m_tok (N : Nat) (hN : 700 ≤ N) {k : LH → Option Nat → Option LH} {p : Nat} (h : MP tp M) (h8 : M.1 18 = nI p) (hp' : p ≤ tp.length) (hb : ∀ c, tp[p]? = some c → bL c = false) : ∃ M', b_X11_next_0 N k (hp X C M T) (some 35) = some (hp X C M' T) ∧ TM M' (tokAt tp p) ∧ MT M M' := by
  have h6 := h.2.1
  have g8 : gI (hp X C M T) (some 35) 11 18 = some (nI p) := gi_35_18.trans (congrArg some h8)
  have ha := m_see (X := X) (C := C) (T := T) h h8 hp'
  have s1 : MT M (m0 M 20 (nI p)) := MT.rf.st (by decide)
  have ha1 := m_see (X := X) (C := C) (T := T) (h.mt s1) (by rw [m0_n (by decide), h8]) hp'
  have hnb : ¬ sg tp p = 10 ∧ ¬ sg tp p = 32 := by
    cases e : tp[p]? with
    | none => rw [sg_n e]; decide
    | some c =>
      rw [sg_s e]
      have hc := hb c e
      have hcb := h.b e
      refine ⟨ne_nI (b := 10) (fun z => ?_) (by omega) (by decide), ne_nI (b := 32) (fun z => ?_) (by omega) (by decide)⟩
      · rw [z] at hc; cases hc
      · rw [z] at hc; cases hc
  have s2 : ∀ v, MT M (m0 (m0 M 20 (nI p)) 22 v) := fun v => s1.st (by decide)
  have s3 : ∀ v, MT M ((m0 (m0 M 20 (nI p)) 22 v).1, (0 : Int64), (m0 (m0 M 20 (nI p)) 22 v).2.2) := fun v => (s2 v).wd
  have y20 : ∀ v, (m0 (m0 M 20 (nI p)) 22 v).1 20 = nI p := fun v => by rw [m0_n (by decide), m0_s]
  have y18 : ∀ v, (m0 (m0 M 20 (nI p)) 22 v).1 18 = nI p := fun v => by rw [m0_n (by decide), m0_n (by decide), h8]
  unfold tokAt
  cases e : tp[p]? with
  | none =>
    rw [sg_n e] at ha ha1 hnb
    exact ⟨_, nb_e ha hnb.1 hnb.2 g8 (pi_35_20 _) ha1 (pi_35_22 _) (pj_35_23 _) (by decide) (pi_35_21 _), ⟨Or.inl ⟨rfl, m0_s⟩, (m0_n (by decide)).trans (y20 (-1)), (m0_n (by decide)).trans (y18 (-1))⟩, (s3 _).st (by decide)⟩
  | some c =>
    rw [sg_s e] at ha ha1 hnb
    have hcb := h.b e
    have hlt := at_lt e
    have h0 : (0 : Int32) ≤ nI c := nI_le (a := 0) (Nat.zero_le c) (by omega)
    have il := mi_l hcb
    have x18 : ((m0 (m0 M 20 (nI p)) 22 (nI c)).1, (0 : Int64), (m0 (m0 M 20 (nI p)) 22 (nI c)).2.2).1 18 = nI p := by
      exact y18 (nI c)
    have x20 : ((m0 (m0 M 20 (nI p)) 22 (nI c)).1, (0 : Int64), (m0 (m0 M 20 (nI p)) 22 (nI c)).2.2).1 20 = nI p := by
      exact y20 (nI c)
    show ∃ M', _ ∧ TM M' (if lL c = true then _ else if dL c = true then _ else _) ∧ _
    cases hl : lL c with
    | true =>
      rw [if_pos rfl]
      rw [hl] at il
      have hsp : p + spn lL tp p ≤ tp.length := spn_le hp'
      obtain ⟨M', k1, k2, k3, k4, k5, k6⟩ := m_letters (X := X) (C := C) (T := T) N (spn lL tp p) p N 0 _ (h.mt (s3 (nI c))) x18 hp' rfl (by omega) (by omega)
      refine ⟨M', nb_l ha hnb.1 hnb.2 g8 (pi_35_20 _) ha1 (pi_35_22 _) (pj_35_23 _) h0 il (by decide) k1, ⟨?_, by rw [k3, x20], k2⟩, (s3 _).tr k6⟩
      refine Or.inr (Or.inr (Or.inr (Or.inr ⟨(tp.drop p).takeWhile lL, fun x hx => ?_, k4, ?_, rfl⟩)))
      · exact List.all_eq_true.mp (List.all_takeWhile) x hx
      · rw [k5, Nat.zero_add]; rfl
    | false =>
      rw [if_neg (by decide)]
      rw [hl] at il
      have id' := mi_d hcb
      cases hd : dL c with
      | true =>
        rw [if_pos rfl]
        rw [hd] at id'
        have hsp : p + spn dL tp p ≤ tp.length := spn_le hp'
        have h0' : dg3 tp p p = 0 := by unfold dg3; rw [Nat.sub_self]; rfl
        have s4 := (s3 (nI c)).st (k := 22) (v := 0) (by decide)
        obtain ⟨M', k1, k2, k3, k4, k5, k6⟩ := m_digits (X := X) (C := C) (T := T) (p := p) N (spn dL tp p) p N _ (h.mt s4) (by rw [m0_n (by decide), x18]) (by rw [m0_s, h0']; rfl) (Nat.le_refl _) hp' (by rw [Nat.sub_self]; intro x hx; cases hx) rfl (by omega)
        rw [Nat.sub_self] at k1 k4
        rw [Nat.zero_add] at k4
        have hdv : dg3 tp p (p + spn dL tp p) = dVal (((tp.drop p).takeWhile dL).take 3) := by
          unfold dg3
          rw [Nat.add_sub_cancel_left]
          congr 2
          exact (List.prefix_iff_eq_take.mp (List.takeWhile_prefix dL)).symm
        refine ⟨M', nb_d ha hnb.1 hnb.2 g8 (pi_35_20 _) ha1 (pi_35_22 _) (pj_35_23 _) h0 il rfl id' (by decide) (pi_35_22 _) k1, ⟨?_, by rw [k3, m0_n (by decide), x20], k2⟩, s4.tr k6⟩
        by_cases h3 : spn dL tp p ≤ 3
        · rw [if_pos h3] at k4 ⊢
          exact Or.inr (Or.inl ⟨rfl, k4, by rw [k5, hdv]⟩)
        · rw [if_neg h3] at k4 ⊢
          exact Or.inr (Or.inr (Or.inl ⟨rfl, k4⟩))
      | false =>
        rw [if_neg (by decide)]
        rw [hd] at id'
        have p18 := pi_35_18 (X := X) (C := C) (M := ((m0 (m0 M 20 (nI p)) 22 (nI c)).1, (0 : Int64), (m0 (m0 M 20 (nI p)) 22 (nI c)).2.2)) (T := T) (nI p + 1)
        cases hg : gL c with
        | true =>
          rw [if_pos rfl]
          have hc : nI c = 59 ∨ nI c = 40 ∨ nI c = 41 ∨ nI c = 60 ∨ nI c = 61 ∨ nI c = 62 := by
            have hg' := hg
            unfold gL at hg'
            simp only [Bool.or_eq_true, beq_iff_eq] at hg'
            rcases hg' with rfl | rfl | rfl | rfl | rfl | rfl <;> decide
          refine ⟨_, nb_s ha hnb.1 hnb.2 g8 (pi_35_20 _) ha1 (pi_35_22 _) (pj_35_23 _) h0 il rfl id' rfl (by rw [gi_35_18, x18]) p18 hc (pi_35_21 _), ⟨Or.inr (Or.inr (Or.inr (Or.inl ⟨hg, m0_s, ?_⟩))), ?_, ?_⟩, ((s3 _).st (by decide)).st (by decide)⟩
          · rw [m0_n (by decide), m0_n (by decide)]; show (m0 (m0 M 20 (nI p)) 22 (nI c)).1 22 = nI c; exact m0_s
          · rw [m0_n (by decide), m0_n (by decide), x20]
          · rw [m0_n (by decide), m0_s, nI_1]
        | false =>
          rw [if_neg (by decide)]
          have hc : ¬ nI c = 59 ∧ ¬ nI c = 40 ∧ ¬ nI c = 41 ∧ ¬ nI c = 60 ∧ ¬ nI c = 61 ∧ ¬ nI c = 62 := by
            have hg' := hg
            unfold gL at hg'
            simp only [Bool.or_eq_false_iff, beq_eq_false_iff_ne] at hg'
            exact ⟨ne_nI (b := 59) hg'.1 (by omega) (by decide), ne_nI (b := 40) hg'.2.1 (by omega) (by decide), ne_nI (b := 41) hg'.2.2.1 (by omega) (by decide), ne_nI (b := 60) hg'.2.2.2.1 (by omega) (by decide), ne_nI (b := 61) hg'.2.2.2.2.1 (by omega) (by decide), ne_nI (b := 62) hg'.2.2.2.2.2 (by omega) (by decide)⟩
          refine ⟨_, nb_x ha hnb.1 hnb.2 g8 (pi_35_20 _) ha1 (pi_35_22 _) (pj_35_23 _) h0 il rfl id' rfl (by rw [gi_35_18, x18]) p18 hc.1 hc.2.1 hc.2.2.1 hc.2.2.2.1 hc.2.2.2.2.1 hc.2.2.2.2.2 (pi_35_21 _), ⟨Or.inr (Or.inr (Or.inl ⟨rfl, m0_s⟩)), ?_, ?_⟩, ((s3 _).st (by decide)).st (by decide)⟩
          · rw [m0_n (by decide), m0_n (by decide), x20]
          · rw [m0_n (by decide), m0_s, nI_1]
theorem m_blanks (N : Nat) (hN : 700 ≤ N) : ∀ (n i m : Nat) (M : MS), MP tp M → M.1 18 = nI i → i ≤ tp.length → spn bL tp i = n → n < m → ∃ M', l_X11_next_0 N m (hp X C M T) (some 35) = some (hp X C M' T) ∧ TM M' (tokAt tp (i + n)) ∧ MT M M' := by
  intro n
  induction n with
  | zero =>
    intro i m M h h8 hl hs hm
    obtain ⟨m', rfl⟩ : ∃ m', m = m' + 1 := ⟨m - 1, by omega⟩
    refine m_tok N hN h h8 hl (fun c e => ?_)
    have e : tp[i]? = some c := e
    rcases spn_0 hs with e' | ⟨c', e', hc⟩
    · rw [e] at e'; cases e'
    · rw [e] at e'; cases e'; exact hc
  | succ n ih =>
    intro i m M h h8 hl hs hm
    obtain ⟨m', rfl⟩ : ∃ m', m = m' + 1 := ⟨m - 1, by omega⟩
    obtain ⟨c, e, hc, hs'⟩ := spn_1 hs
    have ha := m_see (X := X) (C := C) (T := T) h h8 hl
    rw [sg_s e] at ha
    have hlt := at_lt e
    have st : MT M (m0 M 18 (nI (i + 1))) := MT.rf.st (by decide)
    obtain ⟨M', k1, k2, k3⟩ := ih (i + 1) m' (m0 M 18 (nI (i + 1))) (h.mt st) m0_s (by omega) hs' (by omega)
    rw [show i + 1 + n = i + (n + 1) by omega] at k2
    refine ⟨M', ?_, k2, st.tr k3⟩
    show b_X11_next_0 N _ _ _ = _
    have p18 : pF (hp X C M T) (some 35) 11 18 (LI (nI i + 1)) = some (hp X C (m0 M 18 (nI (i + 1))) T) := by rw [nI_1]; exact pi_35_18 _
    unfold bL at hc
    simp only [Bool.or_eq_true, beq_iff_eq] at hc
    rcases hc with rfl | rfl
    · exact (nb_t2 ha (by decide) (by decide) (gi_35_18.trans (congrArg some h8)) p18).trans k1
    · exact (nb_t1 ha (by decide) (gi_35_18.trans (congrArg some h8)) p18).trans k1
theorem m_next (N : Nat) (hN : 700 ≤ N) {i : Nat} (h : MP tp M) (h8 : M.1 18 = nI i) (hi : i ≤ tp.length) : ∃ M', f_X11_next N (hp X C M T) (some 35) = some (hp X C M' T) ∧ TM M' (tok tp i) ∧ MT M M' := by
  have h6 := h.2.1
  have hsp : i + spn bL tp i ≤ tp.length := spn_le hi
  obtain ⟨M', k1, k2, k3⟩ := m_blanks (X := X) (C := C) (T := T) N hN (spn bL tp i) i N M h h8 hi rfl (by omega)
  refine ⟨M', ?_, k2, k3⟩
  unfold f_X11_next b_X11_next
  rw [if_pos io_35]; exact k1
end TKN
