/-! the reference's mend: on from one to the next -/
section MME
variable {X : XS} {C : CS} {M : MS} {T : TS} {S : SG} {K : Nat} {mu : List Nat}
def RCf (M : MS) (n : Nat) (l h : Nat → Nat) : Prop := ∀ j, j < n → M.2.2 47 j = nI (l j) ∧ M.2.2 48 j = nI (h j)
theorem fU_s {f : Nat → Nat} {k v : Nat} : fU f k v k = v := if_pos rfl
theorem fU_n {f : Nat → Nat} {k v j : Nat} (h : j ≠ k) : fU f k v j = f j := if_neg h
theorem RCf.s47 {n j v : Nat} {l h : Nat → Nat} (k : RCf M n l h) : RCf (ma M 47 (upd (M.2.2 47) j (nI v))) n (fU l j v) h := by
  intro i hi
  rw [ma_s, ma_n _ _ (by decide)]
  refine ⟨?_, (k i hi).2⟩
  by_cases q : i = j
  · subst q; rw [pk_us, fU_s]
  · rw [pk_un q, fU_n q]; exact (k i hi).1
theorem RCf.s48 {n j v : Nat} {l h : Nat → Nat} (k : RCf M n l h) : RCf (ma M 48 (upd (M.2.2 48) j (nI v))) n l (fU h j v) := by
  intro i hi
  rw [ma_s, ma_n _ _ (by decide)]
  refine ⟨(k i hi).1, ?_⟩
  by_cases q : i = j
  · subst q; rw [pk_us, fU_s]
  · rw [pk_un q, fU_n q]; exact (k i hi).2
theorem m_reset (N : Nat) {n : Nat} (hn : n ≤ 3) : ∀ (d m j : Nat) (M : MS) (l h : Nat → Nat), n = j + d → d < m → 1 ≤ j → RCf M n l h → ∃ M', l_X11_goesOn_68 N m (hp X C M T) (some 35) (nI n) (nI j) = some (1, hp X C M' T) ∧ EqN M M' ∧ RCf M' n (rsL d j l) (rsH d j h) := by
  intro d
  induction d with
  | zero =>
    intro m j M l h h1 h2 _ h3
    obtain ⟨m, rfl⟩ : ∃ k, m = k + 1 := ⟨m - 1, by omega⟩
    exact ⟨M, gr_end N m (nI_le (by omega) (by omega)), EqN.rf, h3⟩
  | succ d ih =>
    intro m j M l h h1 h2 hj h3
    obtain ⟨m, rfl⟩ : ∃ k, m = k + 1 := ⟨m - 1, by omega⟩
    have e1 : nI j - 1 = nI (j - 1) := nI_m1 j (by omega)
    have k1 := (h3.s47 (j := j) (v := l (j - 1) + 1)).s48 (j := j) (v := 0)
    obtain ⟨M', g1, g2, g3⟩ := ih m (j + 1) _ _ _ (by omega) (by omega) (by omega) k1
    refine ⟨M', ?_, ((EqN.rf.sa (Or.inr (Or.inl rfl))).sa (Or.inr (Or.inr rfl))).tr g2, g3⟩
    have s1 : sI (hp X C M T) (some 59) 0 (nI j) (nI (l (j - 1)) + 1) = some (hp X C (ma M 47 (upd (M.2.2 47) j (nI (l (j - 1) + 1)))) T) := by rw [si_59 (by omega), nI_1]
    have s2 : sI (hp X C (ma M 47 (upd (M.2.2 47) j (nI (l (j - 1) + 1)))) T) (some 60) 0 (nI j) 0 = some (hp X C (ma (ma M 47 (upd (M.2.2 47) j (nI (l (j - 1) + 1)))) 48 (upd ((ma M 47 (upd (M.2.2 47) j (nI (l (j - 1) + 1)))).2.2 48) j (nI 0))) T) := by rw [si_60 (by omega), nI_0]
    rw [gr_st N m (nI_ge (by omega) (by omega)) gr_35_47 (by rw [e1, ai_59 (by omega), (h3 (j - 1) (by omega)).1]) s1 gr_35_48 s2, nI_1]
    exact g1
theorem m_goL (N : Nat) (hN : 10 ≤ N) {n s L : Nat} (hs : s < 4) (hn : n ≤ 3) (hnL : n ≤ L) (hL : L ≤ 12) (h14 : M.2.2 14 s = nI L) {l h : Nat → Nat} (hlb : ∀ j, j < n → l j < 100) (hhb : ∀ j, j < n → h j < 100) (hc : RCf M n l h) : ∀ (i m : Nat), i ≤ n → i < m → (nxF L n i l h = none → l_X11_goesOn_4 N m (hp X C M T) (some 35) (nI s) (nI n) (nI i - 1) = some (0, hp X C M T)) ∧ ∀ l' h', nxF L n i l h = some (l', h') → ∃ M', l_X11_goesOn_4 N m (hp X C M T) (some 35) (nI s) (nI n) (nI i - 1) = some (1, hp X C M' T) ∧ EqN M M' ∧ RCf M' n l' h' := by
  intro i
  induction i with
  | zero =>
    intro m h1 h2
    obtain ⟨m, rfl⟩ : ∃ k, m = k + 1 := ⟨m - 1, by omega⟩
    exact ⟨fun _ => go_end N m (by decide), fun l' h' z => (nomatch z)⟩
  | succ i ih =>
    intro m h1 h2
    obtain ⟨m, rfl⟩ : ∃ k, m = k + 1 := ⟨m - 1, by omega⟩
    rw [nI_pred]
    have hpos : ¬ nI i < 0 := nI_pos (by omega)
    obtain ⟨c1, c2⟩ := hc i (by omega)
    have lb := hlb i (by omega)
    have hb := hhb i (by omega)
    have a48 : aI (hp X C M T) (some 60) 0 (nI i) = some (nI (h i)) := by rw [ai_60 (by omega), c2]
    have a47 : aI (hp X C M T) (some 59) 0 (nI i) = some (nI (l i)) := by rw [ai_59 (by omega), c1]
    have a14 : aI (hp X C M T) (some 48) 0 (nI s) = some (nI L) := by rw [ai_48 (by omega), h14]
    unfold nxF
    by_cases q : h i = 0
    · rw [if_pos q]
      refine ⟨fun z => (nomatch z), fun l' h' z => ?_⟩
      cases z
      obtain ⟨M', g1, g2, g3⟩ := m_reset (X := X) (C := C) (T := T) N hn (n - 1 - i) N (i + 1) _ _ _ (by omega) (by omega) (by omega) (hc.s48 (j := i) (v := 1))
      refine ⟨M', ?_, (EqN.rf.sa (Or.inr (Or.inr rfl))).tr g2, g3⟩
      rw [q, nI_0] at a48
      have s1 : sI (hp X C M T) (some 60) 0 (nI i) 1 = some (hp X C (ma M 48 (upd (M.2.2 48) i (nI 1))) T) := by rw [si_60 (by omega), nI_1']
      rw [← nI_1 i] at g1
      exact go_0 N m hpos gr_35_48 a48 s1 g1
    · rw [if_neg q]
      have hw : ¬ nI (h i) = 0 := nI_ne0 (by omega) (by omega)
      have e1 : nI L - nI n + nI i = nI (L - n + i) := by rw [pk_sub hnL, nI_add]
      by_cases q2 : l i < L - n + i
      · rw [if_pos q2]
        refine ⟨fun z => (nomatch z), fun l' h' z => ?_⟩
        cases z
        obtain ⟨M', g1, g2, g3⟩ := m_reset (X := X) (C := C) (T := T) N hn (n - 1 - i) N (i + 1) _ _ _ (by omega) (by omega) (by omega) ((hc.s47 (j := i) (v := l i + 1)).s48 (j := i) (v := 0))
        refine ⟨M', ?_, ((EqN.rf.sa (Or.inr (Or.inl rfl))).sa (Or.inr (Or.inr rfl))).tr g2, g3⟩
        have s1 : sI (hp X C M T) (some 59) 0 (nI i) (nI (l i) + 1) = some (hp X C (ma M 47 (upd (M.2.2 47) i (nI (l i + 1)))) T) := by rw [si_59 (by omega), nI_1]
        have s2 : sI (hp X C (ma M 47 (upd (M.2.2 47) i (nI (l i + 1)))) T) (some 60) 0 (nI i) 0 = some (hp X C (ma (ma M 47 (upd (M.2.2 47) i (nI (l i + 1)))) 48 (upd ((ma M 47 (upd (M.2.2 47) i (nI (l i + 1)))).2.2 48) i (nI 0))) T) := by rw [si_60 (by omega), nI_0]
        rw [← nI_1 i] at g1
        exact go_1 N m hpos gr_35_48 a48 hw gr_35_47 a47 gr_35_14 a14 (by rw [e1]; exact nI_ge q2 (by omega)) s1 gr_35_48 s2 g1
      · rw [if_neg q2]
        have e2 : nI i + (-1) = nI i - 1 := (Int32.sub_eq_add_neg _ _).symm
        have st := go_2 N m hpos gr_35_48 a48 hw gr_35_47 a47 gr_35_14 a14 (v2 := nI n) (by rw [e1]; exact nI_le (by omega) (by omega))
        rw [e2] at st
        rw [st]
        exact ih m (by omega) (by omega)
theorem m_goesOn (N : Nat) (hN : 10 ≤ N) {n s L : Nat} {c : CH} (hs : s < 4) (hn : n ≤ 3) (hnL : n ≤ L) (hL : L ≤ 12) (h14 : M.2.2 14 s = nI L) (hlen : c.length = n) (hcb : ∀ x ∈ c, x.1 < L ∧ x.2 < 2) (hc : RCm M c) : (nextC L n c = none → f_X11_goesOn N (hp X C M T) (some 35) (nI s) (nI n) = some (0, hp X C M T)) ∧ ∀ c', nextC L n c = some c' → ∃ M', f_X11_goesOn N (hp X C M T) (some 35) (nI s) (nI n) = some (1, hp X C M' T) ∧ EqN M M' ∧ RCm M' c' := by
  have gd : ∀ j, j < n → ∃ x, c[j]? = some x ∧ cL c j = x.1 ∧ cH c j = x.2 := fun j hj => by
    obtain ⟨x, hx⟩ := at_ex c (show j < c.length by omega)
    refine ⟨x, hx, ?_, ?_⟩
    · unfold cL; rw [List.getD_eq_getElem?_getD, hx]; rfl
    · unfold cH; rw [List.getD_eq_getElem?_getD, hx]; rfl
  have hcf : RCf M n (cL c) (cH c) := fun j hj => by
    obtain ⟨x, h1, h2, h3⟩ := gd j hj
    rw [h2, h3]; exact hc j x h1
  have := m_goL (X := X) (C := C) (T := T) N hN hs hn hnL hL h14 (fun j hj => by
    obtain ⟨x, h1, h2, h3⟩ := gd j hj
    have := hcb x (List.mem_of_getElem? h1)
    rw [h2]; omega) (fun j hj => by
    obtain ⟨x, h1, h2, h3⟩ := gd j hj
    have := hcb x (List.mem_of_getElem? h1)
    rw [h3]; omega) hcf n N (Nat.le_refl _) (by omega)
  unfold nextC
  refine ⟨fun z => ?_, fun c' z => ?_⟩
  · have z' : nxF L n n (cL c) (cH c) = none := by
      cases hq : nxF L n n (cL c) (cH c) with
      | none => rfl
      | some p => rw [hq] at z; cases z
    exact go_ab N io_35 false (this.1 z')
  · cases hq : nxF L n n (cL c) (cH c) with
    | none => rw [hq] at z; cases z
    | some p =>
      rw [hq] at z
      cases z
      obtain ⟨M', g1, g2, g3⟩ := this.2 p.1 p.2 hq
      refine ⟨M', go_ab N io_35 true g1, g2, fun j x hx => ?_⟩
      unfold toC at hx
      rw [List.getElem?_map] at hx
      cases hr : (List.range n)[j]? with
      | none => rw [hr] at hx; cases hx
      | some y =>
        rw [hr] at hx
        have hj : j < n := by have := at_lt hr; rwa [List.length_range] at this
        rw [List.getElem?_range hj] at hr
        cases hr
        cases hx
        exact g3 j hj
/-- one after the other, until one does -/
theorem m_search (N : Nat) (hN : 2000 ≤ N) {t : TLD} {r : RSV} {s n : Nat} (hs : s < 4) (hn : n ≤ 3) (hnL : n ≤ r.2.length) (hT : MTab t 0 M.2.2) (hW : WTld t) (wr : WRs r) (hr : MRs M s r) {k17 : LH → Option Nat → Int32 → Int32 → Option (Int32 × LH)} :
    ∀ (rest : List CH) (c : CH) (m : Nat) (M1 : MS), rest.length < m → chn r.2.length n (c :: rest) = true → RCm M1 c → EqN M M1 → (((c :: rest).find? (okBk t r) = none → ∃ M2, l_X11_mend_66 N k17 m (hp X C M1 T) (some 35) (nI s) (nI n) (b01 (okBk t r c)) = k17 (hp X C M2 T) (some 35) (nI s) (nI (n + 1)) ∧ EqN M M2) ∧ ∀ c', (c :: rest).find? (okBk t r) = some c' → ∃ M2, l_X11_mend_66 N k17 m (hp X C M1 T) (some 35) (nI s) (nI n) (b01 (okBk t r c)) = b_X11_mend_89 N k17 (hp X C M2 T) (some 35) (nI s) (nI n) 1 ∧ EqN M M2 ∧ RCm M2 c') := by
  have hL := wr.2.1
  intro rest
  induction rest with
  | nil =>
    intro c m M1 hm hch hrc he
    obtain ⟨m, rfl⟩ : ∃ k, m = k + 1 := ⟨m - 1, by omega⟩
    obtain ⟨ho, hx⟩ := chn_1 hch
    obtain ⟨o1, o2, o3⟩ := okE_p ho
    cases hok : okBk t r c with
    | true =>
      refine ⟨fun z => (by rw [List.find?_cons, hok] at z; cases z), fun c' z => ?_⟩
      rw [List.find?_cons, hok] at z
      cases z
      exact ⟨M1, ms_1 N m (by decide), he, hrc⟩
    | false =>
      have g := (m_goesOn (X := X) (C := C) (T := T) (M := M1) N (by omega) hs hn hnL hL (hr.n hs wr he).2.1 o1 o2 hrc).1 hx
      refine ⟨fun _ => ⟨M1, ?_, he⟩, fun c' z => by rw [List.find?_cons, hok] at z; cases z⟩
      rw [ms_0e N m (show b01 false = 0 from rfl) g, mp_0 N (show b01 false = 0 from rfl), nI_1]
  | cons c2 rest ih =>
    intro c m M1 hm hch hrc he
    obtain ⟨m, rfl⟩ : ∃ k, m = k + 1 := ⟨m - 1, by omega⟩
    rw [List.length_cons] at hm
    obtain ⟨ho, hx, hch2⟩ := chn_s hch
    obtain ⟨o1, o2, o3⟩ := okE_p ho
    cases hok : okBk t r c with
    | true =>
      refine ⟨fun z => (by rw [List.find?_cons, hok] at z; cases z), fun c' z => ?_⟩
      rw [List.find?_cons, hok] at z
      cases z
      exact ⟨M1, ms_1 N m (by decide), he, hrc⟩
    | false =>
      obtain ⟨M2, g1, g2, g3⟩ := (m_goesOn (X := X) (C := C) (T := T) (M := M1) N (by omega) hs hn hnL hL (hr.n hs wr he).2.1 o1 o2 hrc).2 c2 hx
      have he2 := he.tr g2
      obtain ⟨p1, p2, p3⟩ := okE_p (chn_all hch2 c2 List.mem_cons_self)
      obtain ⟨M3, k1, k2, k3⟩ := m_isM (X := X) (C := C) (T := T) (M := M2) (c := c2) N (by omega) hs (hT.agr hW (he2.agr 0)) hW wr (hr.n hs wr he2) g3 (by omega) p3 (fun x hx => by have := p2 x hx; omega)
      rw [p1] at k1
      have := ih c2 m M3 (by omega) hch2 k3 (he2.tr k2)
      rw [ms_0g N m (show b01 false = 0 from rfl) g1 k1, List.find?_cons, hok]
      exact this
theorem RCm.s45 {c : CH} {f : Nat → Int32} (h : RCm M c) : RCm (ma M 45 f) c := fun j x hx => by rw [ma_n _ _ (by decide), ma_n _ _ (by decide)]; exact h j x hx
theorem RCm.s46 {c : CH} {f : Nat → Int32} (h : RCm M c) : RCm (ma M 46 f) c := fun j x hx => by rw [ma_n _ _ (by decide), ma_n _ _ (by decide)]; exact h j x hx
/-- the MEND is kept -/
theorem m_keep (N : Nat) (hN : 10 ≤ N) {c : CH} (hl : c.length ≤ 3) : ∀ (d m j : Nat) (M : MS), c.length = j + d → d < m → RCm M c → (∀ i x, i < j → c[i]? = some x → M.2.2 45 i = nI x.1 ∧ M.2.2 46 i = nI x.2) → ∃ M', l_X11_mend_121 N m (hp X C M T) (some 35) (nI c.length) (nI j) = some (nI c.length, hp X C M' T) ∧ M'.1 = M.1 ∧ (∀ a, a ≠ 45 → a ≠ 46 → M'.2.2 a = M.2.2 a) ∧ ∀ i x, c[i]? = some x → M'.2.2 45 i = nI x.1 ∧ M'.2.2 46 i = nI x.2 := by
  intro d
  induction d with
  | zero =>
    intro m j M h1 h2 h3 h4
    obtain ⟨m, rfl⟩ : ∃ k, m = k + 1 := ⟨m - 1, by omega⟩
    exact ⟨M, mc_end N m (nI_le (by omega) (by omega)), rfl, fun _ _ _ => rfl, fun i x hx => h4 i x (by have := at_lt hx; omega) hx⟩
  | succ d ih =>
    intro m j M h1 h2 h3 h4
    obtain ⟨m, rfl⟩ : ∃ k, m = k + 1 := ⟨m - 1, by omega⟩
    obtain ⟨x, hx⟩ := at_ex c (show j < c.length by omega)
    obtain ⟨x1, x2⟩ := h3 j x hx
    obtain ⟨M', g1, g2, g3, g4⟩ := ih m (j + 1) (ma (ma M 45 (upd (M.2.2 45) j (nI x.1))) 46 (upd ((ma M 45 (upd (M.2.2 45) j (nI x.1))).2.2 46) j (nI x.2))) (by omega) (by omega) h3.s45.s46 (fun i y hi hy => by
      rw [ma_s, ma_n _ _ (by decide), ma_s, ma_n _ _ (by decide)]
      by_cases q : i = j
      · subst q; rw [hx] at hy; cases hy; rw [pk_us, pk_us]; exact ⟨rfl, rfl⟩
      · rw [pk_un q, pk_un q]; exact h4 i y (by omega) hy)
    refine ⟨M', ?_, g2, fun a ha hb => by rw [g3 a ha hb, ma_n _ _ hb, ma_n _ _ ha], g4⟩
    rw [mc_st N m (nI_ge (by omega) (by omega)) gr_35_45 gr_35_47 (by rw [ai_59 (by omega), x1]) (si_57 (by omega)) gr_35_46 gr_35_48 (by rw [ai_60 (by omega), ma_n _ _ (by decide), x2]) (si_58 (by omega)), nI_1]
    exact g1
theorem m_init (N : Nat) {n s : Nat} (hn : n ≤ 3) {k17 : LH → Option Nat → Int32 → Int32 → Option (Int32 × LH)} : ∀ (d m j : Nat) (M1 : MS), n = j + d → d < m → EqN M M1 → (∀ i, i < j → M1.2.2 47 i = nI i ∧ M1.2.2 48 i = nI 0) → ∃ M2 m', l_X11_mend_34 N k17 m (hp X C M1 T) (some 35) (nI s) (nI n) (nI j) = l_X11_mend_34 N k17 (m' + 1) (hp X C M2 T) (some 35) (nI s) (nI n) (nI n) ∧ EqN M M2 ∧ ∀ i, i < n → M2.2.2 47 i = nI i ∧ M2.2.2 48 i = nI 0 := by
  intro d
  induction d with
  | zero =>
    intro m j M1 h1 h2 h3 h4
    obtain ⟨m, rfl⟩ : ∃ k, m = k + 1 := ⟨m - 1, by omega⟩
    have hj : j = n := by omega
    subst hj
    exact ⟨M1, m, rfl, h3, h4⟩
  | succ d ih =>
    intro m j M1 h1 h2 h3 h4
    obtain ⟨m, rfl⟩ : ∃ k, m = k + 1 := ⟨m - 1, by omega⟩
    obtain ⟨M2, m', g1, g2, g3⟩ := ih m (j + 1) (ma (ma M1 47 (upd (M1.2.2 47) j (nI j))) 48 (upd ((ma M1 47 (upd (M1.2.2 47) j (nI j))).2.2 48) j (nI 0))) (by omega) (by omega) ((h3.sa (Or.inr (Or.inl rfl))).sa (Or.inr (Or.inr rfl))) (fun i hi => by
      rw [ma_s, ma_n _ _ (by decide), ma_s, ma_n _ _ (by decide)]
      by_cases q : i = j
      · subst q; rw [pk_us, pk_us]; exact ⟨rfl, rfl⟩
      · rw [pk_un q, pk_un q]; exact h4 i (by omega))
    refine ⟨M2, m', ?_, g2, g3⟩
    rw [mi_st N m (nI_ge (by omega) (by omega)) gr_35_47 (si_59 (by omega)) gr_35_48 (by rw [← nI_0]; exact si_60 (by omega)), nI_1]
    exact g1
/-- what a MEND leaves -/
def EqK (M M' : MS) (s : Nat) (c : CH) : Prop := (∀ k, k ≠ 0 → k ≠ 39 → k ≠ 40 → k ≠ 41 → k ≠ 42 → k ≠ 43 → k ≠ 44 → M'.1 k = M.1 k) ∧ (∀ a, a ≠ 38 → a ≠ 45 → a ≠ 46 → a ≠ 47 → a ≠ 48 → M'.2.2 a = M.2.2 a) ∧ M'.1 41 = 1 ∧ M'.1 42 = nI s ∧ M'.1 43 = M.2.2 37 s ∧ M'.1 44 = nI c.length ∧ ∀ i x, c[i]? = some x → M'.2.2 45 i = nI x.1 ∧ M'.2.2 46 i = nI x.2
theorem m_mendL (N : Nat) (hN : 2000 ≤ N) {t : TLD} {r : RSV} {s : Nat} (hs : s < 4) (hT : MTab t 0 M.2.2) (hW : WTld t) (wr : WRs r) (hr : MRs M s r) : ∀ (d m n : Nat) (M1 : MS), 4 = n + d → d < m → EqN M M1 → ((List.range' n (4 - n)).findSome? (fun k => (allC r.2.length k 0 []).find? (okBk t r)) = none → ∃ M2, l_X11_mend_17 N m (hp X C M1 T) (some 35) (nI s) (nI n) = some (-1, hp X C M2 T) ∧ EqN M M2) ∧ ∀ c, (List.range' n (4 - n)).findSome? (fun k => (allC r.2.length k 0 []).find? (okBk t r)) = some c → ∃ M2, l_X11_mend_17 N m (hp X C M1 T) (some 35) (nI s) (nI n) = some (nI c.length, hp X C M2 T) ∧ EqK M M2 s c := by
  have hL := wr.2.1
  intro d
  induction d with
  | zero =>
    intro m n M1 h1 h2 he
    obtain ⟨m, rfl⟩ : ∃ k, m = k + 1 := ⟨m - 1, by omega⟩
    rw [show 4 - n = 0 by omega]
    exact ⟨fun _ => ⟨M1, mo3 N m (by rw [← nI_3]; exact nI_lt (by omega) (by omega)), he⟩, fun c hc => by simp at hc⟩
  | succ d ih =>
    intro m n M1 h1 h2 he
    obtain ⟨m, rfl⟩ : ∃ k, m = k + 1 := ⟨m - 1, by omega⟩
    have h3 : ¬ (3 : Int32) < nI n := by rw [← nI_3]; exact nI_nlt (by omega) (by decide)
    have a14 : aI (hp X C M1 T) (some 48) 0 (nI s) = some (nI r.2.length) := by rw [ai_48 (by omega), (hr.n hs wr he).2.1]
    have hchk := chk_all r.2.length (by omega) n (by omega)
    by_cases hnL : n ≤ r.2.length
    · unfold chk at hchk
      rw [if_pos hnL] at hchk
      simp only [Bool.and_eq_true, beq_iff_eq] at hchk
      obtain ⟨hh, hch⟩ := hchk
      rw [show 4 - n = (4 - (n + 1)) + 1 by omega, List.range'_succ, List.findSome?_cons, moG N m h3 gr_35_14 a14 (nI_nlt hnL (by omega))]
      obtain ⟨M2, m', g1, g2, g3⟩ := m_init (X := X) (C := C) (M := M) (T := T) (s := s) (k17 := l_X11_mend_17 N m) N (show n ≤ 3 by omega) n N 0 M1 (by omega) (by omega) he (fun i hi => by omega)
      rw [nI_0] at g1
      rw [g1]
      cases hE : allC r.2.length n 0 [] with
      | nil => rw [hE] at hh; simp at hh
      | cons c rest =>
        rw [hE] at hh hch
        have hc : c = (List.range n).map fun j => (j, 0) := by simpa using hh
        have hrc : RCm M2 c := fun j x hx => by
          rw [hc, List.getElem?_map] at hx
          cases hr' : (List.range n)[j]? with
          | none => rw [hr'] at hx; cases hx
          | some y =>
            rw [hr'] at hx
            have hj : j < n := by have := at_lt hr'; rwa [List.length_range] at this
            rw [List.getElem?_range hj] at hr'
            cases hr'; cases hx
            exact g3 j hj
        obtain ⟨o1, o2, o3⟩ := okE_p (chn_all hch c List.mem_cons_self)
        obtain ⟨M3, k1, k2, k3⟩ := m_isM (X := X) (C := C) (T := T) (M := M2) (c := c) N (by omega) hs (hT.agr hW (g2.agr 0)) hW wr (hr.n hs wr g2) hrc (by omega) o3 (fun x hx => by have := o2 x hx; omega)
        rw [o1] at k1
        rw [mi_go N m' (nI_le (Nat.le_refl _) (by omega)) k1]
        have hsz : rest.length < N := by
          have hlen : (allC r.2.length n 0 []).length < 2000 := by
            have : ∀ L, L < 13 → ∀ n, n < 4 → (allC L n 0 []).length < 2000 := by decide +kernel
            exact this _ (by omega) _ (by omega)
          rw [hE, List.length_cons] at hlen
          omega
        have hse := m_search (X := X) (C := C) (T := T) (M := M) N hN hs (show n ≤ 3 by omega) hnL hT hW wr hr (k17 := l_X11_mend_17 N m) rest c N M3 hsz hch k3 (g2.tr k2)
        cases hq : (c :: rest).find? (okBk t r) with
        | none =>
          obtain ⟨M4, q1, q2⟩ := hse.1 hq
          rw [q1]
          exact ih m (n + 1) M4 (by omega) (by omega) q2
        | some c' =>
          refine ⟨fun z => (nomatch z), fun c'' z => ?_⟩
          cases z
          obtain ⟨M4, q1, q2, q3⟩ := hse.2 c' hq
          obtain ⟨u1, u2, u3⟩ := okE_p (chn_all hch c' (List.mem_of_find?_eq_some hq))
          have a37 : aI (hp X C (m0 (m0 M4 41 1) 42 (nI s)) T) (some 55) 0 (nI s) = some (M.2.2 37 s) := by
            rw [ai_55 (by omega)]
            exact congrArg some (congrFun (q2.2 37 (by decide) (by decide) (by decide)) s)
          obtain ⟨M5, v1, v2, v3, v4⟩ := m_keep (X := X) (C := C) (T := T) N (by omega) (c := c') (by omega) c'.length N 0 (m0 (m0 (m0 (m0 M4 41 1) 42 (nI s)) 43 (M.2.2 37 s)) 44 (nI n)) (by omega) (by omega) q3 (fun i x hi => by omega)
          rw [u1, nI_0] at v1
          refine ⟨M5, ?_, ?_, ?_, ?_, ?_, ?_, ?_, v4⟩
          · rw [q1, u1]
            refine mp_1 N (by decide) (A1 := hp X C (m0 M4 41 1) T) ?_ (pi_35_42 _) gr_35_37 a37 (pi_35_43 _) (pi_35_44 _) v1
            rw [pz_35_41, if_pos (Or.inr rfl)]
          · intro k k0 k39 k40 k41 k42 k43 k44
            rw [v2]
            rw [m0_1, up_n _ _ k44, m0_1, up_n _ _ k43, m0_1, up_n _ _ k42, m0_1, up_n _ _ k41]
            exact q2.1 k k0 k39 k40
          · intro a a38 a45 a46 a47 a48
            rw [v3 a a45 a46]
            exact q2.2 a a38 a47 a48
          · rw [v2]; rfl
          · rw [v2]; rfl
          · rw [v2]; rfl
          · rw [v2, u1]; rfl
    · have hn0 : (List.range' n (4 - n)).findSome? (fun k => (allC r.2.length k 0 []).find? (okBk t r)) = none := by
        rw [List.findSome?_eq_none_iff]
        intro k hk
        have hk' := List.mem_range'_1.mp hk
        have hc := chk_all r.2.length (by omega) k (by omega)
        unfold chk at hc
        rw [if_neg (by omega), beq_iff_eq] at hc
        rw [hc]; rfl
      rw [hn0]
      exact ⟨fun _ => ⟨M1, moL N m h3 gr_35_14 a14 (nI_lt (by omega) (by omega)), he⟩, fun c hc => (nomatch hc)⟩
end MME
