/-! deps: 31.oph 32.dyn 33.cnt -/
/-! what comes later: new cells, their writing; the constructor of Rules -/
section TTT
variable {X : XS} {C : CS} {M : MS} {T : TS} {S : SG} {K : Nat} {mu : List Nat}
def aT (T : TS) (c : LC) (z : Nat) : TS := (T.1 + 1, T.2.1 + z, va_up T.2.2 (8 + T.1) c)
def sT (T : TS) (q : Nat) (c : LC) : TS := (T.1, T.2.1, va_up T.2.2 q c)
theorem aT_1 {c : LC} {z : Nat} : (aT T c z).1 = T.1 + 1 := rfl
theorem aT_2 {c : LC} {z : Nat} : (aT T c z).2.1 = T.2.1 + z := rfl
theorem sT_1 {q : Nat} {c : LC} : (sT T q c).1 = T.1 := rfl
theorem sT_2 {q : Nat} {c : LC} : (sT T q c).2.1 = T.2.1 := rfl
theorem vu_s {α : Type} {f : Nat → α} {k : Nat} {v : α} : va_up f k v k = v := by unfold va_up; rw [if_pos rfl]
theorem vu_n {α : Type} {f : Nat → α} {k j : Nat} {v : α} (h : j ≠ k) : va_up f k v j = f j := by unfold va_up; rw [if_neg h]
theorem aT_s {c : LC} {z : Nat} : (aT T c z).2.2 (8 + T.1) = c := vu_s
theorem aT_n {c : LC} {z q : Nat} (h : q ≠ 8 + T.1) : (aT T c z).2.2 q = T.2.2 q := vu_n h
theorem sT_s {c : LC} {q : Nat} : (sT T q c).2.2 q = c := vu_s
theorem sT_n {c : LC} {q p : Nat} (h : p ≠ q) : (sT T q c).2.2 p = T.2.2 p := vu_n h
theorem sTsT {c d : LC} {q : Nat} : sT (sT T q c) q d = sT T q d := by
  unfold sT
  simp only [Prod.mk.injEq, true_and]
  funext j
  by_cases h : j = q
  · subst h; rw [vu_s, vu_s]
  · rw [vu_n h, vu_n h, vu_n h]
theorem hn_hp : hn (hp X C M T) = T.1 := rfl
theorem hz_hp : hz (hp X C M T) = T.2.1 := rfl
theorem al_hp {c : LC} {z : Nat} (h : 54 ≤ T.1) : al (hp X C M T) c z = hp X C M (aT T c z) := by
  unfold al
  rw [if_neg (show ¬ 8 + hn (hp X C M T) < 62 from by show ¬ 8 + T.1 < 62; omega)]
  rfl
theorem sc_hp {q : Nat} {c : LC} (h : 62 ≤ q) : sc (hp X C M T) q c = hp X C M (sT T q c) := by
  unfold sc; rw [if_neg (by omega)]; rfl
theorem gc_hp {q : Nat} (h : 62 ≤ q) : gc (hp X C M T) q = T.2.2 q := by
  unfold gc; rw [if_neg (by omega)]; rfl
theorem gD_hi {q : Nat} (h : 62 ≤ q) : gD T q = T.2.2 q := by
  unfold gD; rw [if_neg (by omega), if_neg (by omega), if_neg (by omega), if_neg (by omega)]
theorem gD_lo {T' : TS} {q : Nat} (h : q < 62) : gD T' q = gD T q := by
  unfold gD
  repeat' split
  all_goals first | rfl | omega
theorem pF_hp {q ci k : Nat} {fs : List LV} {v : LV} (h : 62 ≤ q) (hc : T.2.2 q = .inr (ci, fs)) (hk : k < fs.length) : pF (hp X C M T) (some q) ci k v = some (hp X C M (sT T q (.inr (ci, fs.set k v)))) := by
  have hc' := (gc_hp (X := X) (C := C) (M := M) h).trans hc
  simp only [pF, hc']
  rw [if_pos ⟨trivial, hk, by omega⟩, sc_hp h]
theorem pZ_hp {q ci k : Nat} {fs : List LV} {x : Int32} (h : 62 ≤ q) (hc : T.2.2 q = .inr (ci, fs)) (hk : k < fs.length) (hx : x = 0 ∨ x = 1) : pZ (hp X C M T) (some q) ci k x = some (hp X C M (sT T q (.inr (ci, fs.set k (LI x))))) := by
  unfold pZ; rw [if_pos hx, pF_hp h hc hk]
theorem nI_hp {t n : Nat} (h : 54 ≤ T.1) (hn : n ≤ 60000000) : nI_ (hp X C M T) t (nI n) = some (hp X C M (aT T (.inl (t, n, .inl fun _ => 0)) n)) := by
  unfold nI_
  rw [nI_clamp (by omega), if_pos ⟨nI_pos (by omega), hn⟩, al_hp h]
theorem nR_hp {t n : Nat} (h : 54 ≤ T.1) (hn : n ≤ 60000000) : nR_ (hp X C M T) t (nI n) = some (hp X C M (aT T (.inl (t, n, .inr fun _ => none)) n)) := by
  unfold nR_
  rw [nI_clamp (by omega), if_pos ⟨nI_pos (by omega), hn⟩, al_hp h]
theorem sI_hp {q t n k : Nat} {f : Nat → Int32} {x : Int32} (h : 62 ≤ q) (hc : T.2.2 q = .inl (t, n, .inl f)) (hk : k < n) (hn : n < 2 ^ 31) : sI (hp X C M T) (some q) t (nI k) x = some (hp X C M (sT T q (.inl (t, n, .inl (upd f k x))))) := by
  rw [sI_at ((gc_hp h).trans hc) hk hn (by omega), sc_hp h]
theorem sR_at {A : LH} {q t n ci k v : Nat} {f : Nat → Option Nat} {fs : List LV} (h : gc A q = .inl (t, n, .inr f)) (hk : k < n) (hn : n < 2 ^ 31) (h8 : 8 ≤ q) (hv : gc A v = .inr (ci, fs)) (hv8 : 8 ≤ v) : sR A (some q) t ci (nI k) (some v) = some (sc A q (.inl (t, n, .inr (va_up f k (some v))))) := by
  have := vp_in_nI hk hn
  unfold vp_in at this
  simp only [sR, h, hv]
  rw [if_pos ⟨⟨trivial, h8⟩, this⟩, if_pos ⟨trivial, hv8⟩, nI_clamp (by omega)]
theorem sR_hp {q t n ci k v : Nat} {f : Nat → Option Nat} {fs : List LV} (h : 62 ≤ q) (hc : T.2.2 q = .inl (t, n, .inr f)) (hk : k < n) (hn : n < 2 ^ 31) (hv : gc (hp X C M T) v = .inr (ci, fs)) (hv8 : 8 ≤ v) : sR (hp X C M T) (some q) t ci (nI k) (some v) = some (hp X C M (sT T q (.inl (t, n, .inr (va_up f k (some v)))))) := by
  rw [sR_at ((gc_hp h).trans hc) hk hn (by omega) hv hv8, sc_hp h]
theorem aR_hp {q t n k : Nat} {f : Nat → Option Nat} (h : 62 ≤ q) (hc : T.2.2 q = .inl (t, n, .inr f)) (hk : k < n) (hn : n < 2 ^ 31) : aR (hp X C M T) (some q) t (nI k) = some (f k) := aR_at ((gc_hp h).trans hc) hk hn
theorem ln_hp {q t n : Nat} {f : (Nat → Int32) ⊕ (Nat → Option Nat)} (h : 62 ≤ q) (hc : T.2.2 q = .inl (t, n, f)) (ht : t < 6) : ln6 (hp X C M T) (some q) = some (nI n) := ln6_at ((gc_hp h).trans hc) ht
theorem gI_hp {q ci k : Nat} {fs : List LV} {v : Int32} (h : 62 ≤ q) (hc : T.2.2 q = .inr (ci, fs)) (hk : fs[k]? = some (LI v)) : gI (hp X C M T) (some q) ci k = some v := gI_at ((gc_hp h).trans hc) hk
theorem gR_hp {q ci k : Nat} {fs : List LV} {v : Option Nat} (h : 62 ≤ q) (hc : T.2.2 q = .inr (ci, fs)) (hk : fs[k]? = some (LR v)) : gR (hp X C M T) (some q) ci k = some v := gR_at ((gc_hp h).trans hc) hk
theorem isO_hp {q ci : Nat} {fs : List LV} (h : 62 ≤ q) (hc : T.2.2 q = .inr (ci, fs)) : isO (hp X C M T) (some q) ci = true := isO_at ((gc_hp h).trans hc)
/-- all that stood stays, for what nobody writes again -/
def Ex (mu : List Nat) (T : TS) (mu' : List Nat) (T' : TS) : Prop := ∀ q, im mu T q → im mu' T' q ∧ gD T' q = gD T q
theorem Ex.rf : Ex mu T mu T := fun _ h => ⟨h, rfl⟩
theorem Ex.tr {mu' mu'' : List Nat} {T' T'' : TS} (h : Ex mu T mu' T') (h2 : Ex mu' T' mu'' T'') : Ex mu T mu'' T'' := fun q hq => ⟨(h2 q (h q hq).1).1, (h2 q (h q hq).1).2.trans (h q hq).2⟩
theorem isLn.ex {mu' : List Nat} {T' : TS} {p : Nat} {l : LNV} (h : isLn mu T p l) (e : Ex mu T mu' T') : isLn mu' T' p l := by
  obtain ⟨h0, w, f, h1, h2, h3, h4⟩ := h
  exact ⟨(e p h0).1, w, f, (e w h1).1, (e p h0).2.trans h2, (e w h1).2.trans h3, h4⟩
theorem isRl.ex {mu' : List Nat} {T' : TS} {q : Nat} {r : RSV} (h : isRl mu T q r) (e : Ex mu T mu' T') : isRl mu' T' q r := by
  obtain ⟨h0, ql, qo, fl, fo, h1, h2, h3, h4, h5, h6, h7⟩ := h
  refine ⟨(e q h0).1, ql, qo, fl, fo, (e ql h1).1, (e qo h2).1, (e q h0).2.trans h3, (e ql h1).2.trans h4, (e qo h2).2.trans h5, fun i l hl => ?_, h7⟩
  obtain ⟨p, e1, e2⟩ := h6 i l hl
  exact ⟨p, e1, e2.ex e⟩
theorem RSl.ex {mu' : List Nat} {T' : TS} {sl : Nat → RSV} {r : Nat → Option Nat} (h : RSl mu T sl r) (e : Ex mu T mu' T') : RSl mu' T' sl r := fun i hi => by
  obtain ⟨q, h1, h2⟩ := h i hi
  exact ⟨q, h1, h2.ex e⟩
theorem isTo.ex {mu' : List Nat} {T' : TS} {q : Nat} {t : TLD} {own : List Nat} (h : isTo mu T q t own) (e : Ex mu T mu' T') (ho : ∀ p ∈ own, gD T' p = gD T p) : isTo mu' T' q t own := by
  obtain ⟨qp, cp, qt, ct, qa, ca, qs, np, nt, na, fp, ft, fa, fs, rfl, h1, h2, h3, h4, h5, h6, h7, h8, h9, h10⟩ := h
  refine ⟨qp, cp, qt, ct, qa, ca, qs, np, nt, na, fp, ft, fa, fs, rfl, ?_, ?_, ?_, ?_, ?_, ?_, ?_, ?_, h9, h10.ex e⟩
  · exact (ho q (by simp)).trans h1
  · exact (ho qp (by simp)).trans h2
  · exact (ho cp (by simp)).trans h3
  · exact (ho qt (by simp)).trans h4
  · exact (ho ct (by simp)).trans h5
  · exact (ho qa (by simp)).trans h6
  · exact (ho ca (by simp)).trans h7
  · exact (ho qs (by simp)).trans h8
/-- cells were only added -/
def Gr (T T' : TS) : Prop := T.1 ≤ T'.1 ∧ ∀ q, q < 8 + T.1 → T'.2.2 q = T.2.2 q
theorem Gr.rf (T : TS) : Gr T T := ⟨Nat.le_refl _, fun _ _ => rfl⟩
theorem Gr.tr {T' T'' : TS} (h : Gr T T') (h2 : Gr T' T'') : Gr T T'' := ⟨Nat.le_trans h.1 h2.1, fun q hq => (h2.2 q (by have := h.1; omega)).trans (h.2 q hq)⟩
theorem Gr.aT {T' : TS} {c : LC} {z : Nat} (h : Gr T T') : Gr T (aT T' c z) := ⟨by rw [aT_1]; have := h.1; omega, fun q hq => (aT_n (by have := h.1; omega)).trans (h.2 q hq)⟩
theorem Gr.sT {T' : TS} {c : LC} {p : Nat} (h : Gr T T') (hp : 8 + T.1 ≤ p) : Gr T (sT T' p c) := ⟨h.1, fun q hq => (sT_n (by omega)).trans (h.2 q hq)⟩
theorem Gr.gD {T' : TS} (h : Gr T T') {q : Nat} (hq : q < 8 + T.1) : gD T' q = gD T q := by
  by_cases q59 : q < 62
  · exact gD_lo q59
  · rw [gD_hi (by omega), gD_hi (by omega)]; exact h.2 q hq
theorem Gr.ex {T' : TS} (h : Gr T T') (h51 : 54 ≤ T.1) : Ex mu T mu T' := fun q hq => by
  obtain ⟨h1, h2⟩ := hq
  have := h.1
  refine ⟨⟨h1, by omega⟩, h.gD (by omega)⟩
theorem isLn.hi {p : Nat} {l : LNV} (h : isLn mu T p l) : 62 ≤ p ∧ p < 8 + T.1 := by
  obtain ⟨h0, w, f, h1, h2, -⟩ := h
  rcases h0.2 with rfl | rfl | rfl | h
  · exact absurd h2 (by simp [gD])
  · exact absurd h2 (by simp [gD])
  · exact absurd h2 (by simp [gD])
  · exact h
theorem rng_f (P : Nat → Bool) (n : Nat) : ∀ m, (List.range (n + m)).filter (fun i => decide (i < n) && P i) = (List.range n).filter P := by
  intro m
  induction m with
  | zero =>
    rw [Nat.add_zero]
    refine List.filter_congr fun i hi => ?_
    simp [List.mem_range.mp hi]
  | succ m ih => rw [← Nat.add_assoc, List.range_succ, List.filter_append, ih]; simp; intro h; omega
/-- the LINES of a set of bits, from i on -/
def lsB (s : Int32) (i : Nat) : List Nat := (List.range' i (12 - i)).filter fun j => bt s j
theorem lsB_s {s : Int32} {i : Nat} (h : i < 12) : lsB s i = if bt s i then i :: lsB s (i + 1) else lsB s (i + 1) := by
  unfold lsB
  rw [show 12 - i = (12 - (i + 1)) + 1 by omega, List.range'_succ, List.filter_cons]
theorem k_addL (N : Nat) {qo n : Nat} (h59 : 62 ≤ qo) (hn : n < 2 ^ 31) (s : Int32) : ∀ (d m a i : Nat) (f : Nat → Int32), 12 = i + d → d < m → a + (lsB s i).length ≤ n → ∃ f', l_X3_addLines_5 N m (hp X C M (sT T qo (.inl (0, n, .inl f)))) s (some qo) (nI a) (nI i) = some (nI (a + (lsB s i).length), hp X C M (sT T qo (.inl (0, n, .inl f')))) ∧ (∀ j, j < a → f' j = f j) ∧ ∀ j k, (lsB s i)[j]? = some k → f' (a + j) = nI k := by
  intro d
  induction d with
  | zero =>
    intro m a i f h1 h2 h3
    obtain ⟨m, rfl⟩ : ∃ k, m = k + 1 := ⟨m - 1, by omega⟩
    have hi : i = 12 := by omega
    subst hi
    have e : lsB s 12 = [] := rfl
    refine ⟨f, ?_, fun _ _ => rfl, fun j k hk => by rw [e] at hk; cases hk⟩
    simp only [l_X3_addLines_5, b_X3_addLines_5, ← nI_12, nI_le (Nat.le_refl 12) (by decide), if_true, e, List.length_nil, Nat.add_zero]
  | succ d ih =>
    intro m a i f h1 h2 h3
    obtain ⟨m, rfl⟩ : ∃ k, m = k + 1 := ⟨m - 1, by omega⟩
    have hlt : ¬ (12 : Int32) ≤ nI i := by rw [← nI_12]; exact nI_ge (by omega) (by decide)
    have hh := hb_e s (show i < 32 by omega)
    rw [lsB_s (by omega)] at h3 ⊢
    cases q0 : bt s i with
    | false =>
      rw [q0] at hh h3
      simp only [cond_false] at hh
      simp only [Bool.false_eq_true, if_false] at h3 ⊢
      obtain ⟨f', e1, e2, e3⟩ := ih m a (i + 1) f (by omega) (by omega) h3
      refine ⟨f', ?_, e2, e3⟩
      simp only [l_X3_addLines_5, b_X3_addLines_5, hlt, hh, if_true, if_false, Option.bind_some, nI_1, e1]
    | true =>
      rw [q0] at hh h3
      simp only [cond_true] at hh
      simp only [if_true, List.length_cons] at h3 ⊢
      obtain ⟨f', e1, e2, e3⟩ := ih m (a + 1) (i + 1) (upd f a (nI i)) (by omega) (by omega) (by omega)
      have g := ln_hp (X := X) (C := C) (M := M) (T := sT T qo (.inl (0, n, .inl f))) h59 sT_s (by decide)
      have g2 := sI_hp (X := X) (C := C) (M := M) (T := sT T qo (.inl (0, n, .inl f))) (k := a) (x := nI i) h59 sT_s (by omega) hn
      rw [sTsT] at g2
      refine ⟨f', ?_, fun j hj => ?_, fun j k hk => ?_⟩
      · simp only [l_X3_addLines_5, b_X3_addLines_5, hlt, hh, if_false, Option.bind_some, nI_1, g, isIn_n (show a < n by omega) hn, i1_ne, g2, e1]
        rw [show a + ((lsB s (i + 1)).length + 1) = a + 1 + (lsB s (i + 1)).length by omega]
      · rw [e2 j (by omega), pk_un (by omega)]
      · cases j with
        | zero => cases hk; rw [Nat.add_zero, e2 a (by omega), pk_us]
        | succ j =>
          rw [List.getElem?_cons_succ] at hk
          rw [show a + (j + 1) = a + 1 + j by omega]
          exact e3 j k hk
theorem lsB_0 {s : Int32} {n : Nat} (hn : n ≤ 12) (P : Nat → Bool) (h : ∀ j, j < 12 → bt s j = (decide (j < n) && P j)) : lsB s 0 = (List.range n).filter P := by
  unfold lsB
  rw [← rng_f P n (12 - n), show n + (12 - n) = 12 - 0 by omega, List.range_eq_range']
  exact List.filter_congr fun i hi => h i (by have := List.mem_range'_1.mp hi; omega)
theorem bt_one {i j : Nat} (hi : i < 32) (hj : j < 32) : bt ((1 : Int32) <<< (nI i &&& 31)) j = decide (j = i) := by
  rw [b_shl i hi 1 hj, bt1 (j - i) (by omega)]
  by_cases q : i ≤ j
  · simp [q]; omega
  · simp [q]; omega
theorem all_n : ∀ n, n < 13 → ((1 : Int32) <<< (nI n &&& 31)) - 1 = nI (2 ^ n - 1) := by decide +kernel
theorem bt_all {n j : Nat} (hn : n ≤ 12) (hj : j < 32) : bt (((1 : Int32) <<< (nI n &&& 31)) - 1) j = decide (j < n) := by
  rw [all_n n (by omega), bt_nI hj, Nat.testBit_two_pow_sub_one]
theorem bt_not (x : Int32) {j : Nat} (hj : j < 32) : bt (x ^^^ (-1)) j = !(bt x j) := by
  rw [b_xor, b_m1 j hj, Bool.xor_true]
/-- the LINES of an array of references, and what of them let -/
def LsA (T : TS) (ql n : Nat) (ls : List LNV) : Prop := 62 ≤ ql ∧ ls.length = n ∧ ∃ fl : Nat → Option Nat, T.2.2 ql = .inl (3, n, .inr fl) ∧ ∀ (i : Nat) (l : LNV), ls[i]? = some l → l.1 < 2 ∧ ∃ (p : Nat) (fs : List LV), fl i = some p ∧ 62 ≤ p ∧ T.2.2 p = .inr (0, LI (nI l.1) :: fs)
def letB (ls : List LNV) (j : Nat) : Bool := match ls[j]? with
  | some l => l.1 == 1
  | none => false
theorem k_lets (N : Nat) {ql n : Nat} {ls : List LNV} (h : LsA T ql n ls) (hn : n ≤ 12) : ∀ (d m i : Nat) (v : Int32), n = i + d → d < m → (∀ j, j < 32 → bt v j = (decide (j < i) && letB ls j)) → ∃ w, l_X3_letsOf_4 N (hp X C M T) m (some ql) v (nI i) = some w ∧ ∀ j, j < 32 → bt w j = letB ls j := by
  obtain ⟨h59, hlen, fl, hc, hL⟩ := h
  have g := ln_hp (X := X) (C := C) (M := M) h59 hc (by decide)
  intro d
  induction d with
  | zero =>
    intro m i v h1 h2 hv
    obtain ⟨m, rfl⟩ : ∃ k, m = k + 1 := ⟨m - 1, by omega⟩
    refine ⟨v, ?_, fun j hj => ?_⟩
    · simp only [l_X3_letsOf_4, b_X3_letsOf_4, g, nI_le (show n ≤ i by omega) (by omega), if_true, Option.bind_some]
    · rw [hv j hj]
      by_cases q : j < i
      · simp [q]
      · have : letB ls j = false := by unfold letB; rw [List.getElem?_eq_none (by omega)]
        rw [this, Bool.and_false]
  | succ d ih =>
    intro m i v h1 h2 hv
    obtain ⟨m, rfl⟩ : ∃ k, m = k + 1 := ⟨m - 1, by omega⟩
    obtain ⟨l, hl⟩ := at_ex ls (show i < ls.length by omega)
    obtain ⟨l2, p, fs, e1, e2, e3⟩ := hL i l hl
    have g2 := aR_hp (X := X) (C := C) (M := M) (k := i) h59 hc (by omega) (by omega)
    rw [e1] at g2
    have g3 : gI (hp X C M T) (some p) 0 0 = some (nI l.1) := gI_hp e2 e3 rfl
    have hlt : ¬ nI n ≤ nI i := nI_ge (by omega) (by omega)
    have lb : letB ls i = (l.1 == 1) := by unfold letB; rw [hl]
    rcases (show l.1 = 0 ∨ l.1 = 1 by omega) with q | q
    · rw [q, nI_0] at g3
      obtain ⟨w, e4, e5⟩ := ih m (i + 1) v (by omega) (by omega) (fun j hj => by
        rw [hv j hj]
        by_cases z : j = i
        · subst z; rw [lb, q]; simp
        · congr 1; simp; omega)
      refine ⟨w, ?_, e5⟩
      simp only [l_X3_letsOf_4, b_X3_letsOf_4, g, g2, g3, hlt, if_true, if_false, Option.bind_some, reduceCtorEq, nI_1, e4]
    · rw [q, nI_1'] at g3
      obtain ⟨w, e4, e5⟩ := ih m (i + 1) (v ||| ((1 : Int32) <<< (nI i &&& 31))) (by omega) (by omega) (fun j hj => by
        rw [b_or, hv j hj, bt_one (by omega) hj]
        by_cases z : j = i
        · subst z; rw [lb, q]; simp
        · have : decide (j < i + 1) = decide (j < i) := by simp; omega
          simp [z, this])
      refine ⟨w, ?_, e5⟩
      simp only [l_X3_letsOf_4, b_X3_letsOf_4, g, g2, g3, hlt, if_false, Option.bind_some, reduceCtorEq, i1_ne, nI_1, e4]
theorem k_rev (N : Nat) {qo n : Nat} (h59 : 62 ≤ qo) (hn : n ≤ 12) : ∀ (d m i : Nat) (f : Nat → Int32), n = i + d → d < m → (∀ j, j < i → f j = nI (n - 1 - j)) → ∃ f', l_X3_orderOf_17 N m (hp X C M (sT T qo (.inl (0, n, .inl f)))) (some qo) (nI i) = some (some qo, hp X C M (sT T qo (.inl (0, n, .inl f')))) ∧ ∀ j, j < n → f' j = nI (n - 1 - j) := by
  intro d
  induction d with
  | zero =>
    intro m i f h1 h2 hf
    obtain ⟨m, rfl⟩ : ∃ k, m = k + 1 := ⟨m - 1, by omega⟩
    have g := ln_hp (X := X) (C := C) (M := M) (T := sT T qo (.inl (0, n, .inl f))) h59 sT_s (by decide)
    refine ⟨f, ?_, fun j hj => hf j (by omega)⟩
    simp only [l_X3_orderOf_17, b_X3_orderOf_17, g, nI_le (show n ≤ i by omega) (by omega), if_true, Option.bind_some]
  | succ d ih =>
    intro m i f h1 h2 hf
    obtain ⟨m, rfl⟩ : ∃ k, m = k + 1 := ⟨m - 1, by omega⟩
    have g := ln_hp (X := X) (C := C) (M := M) (T := sT T qo (.inl (0, n, .inl f))) h59 sT_s (by decide)
    have g2 := sI_hp (X := X) (C := C) (M := M) (T := sT T qo (.inl (0, n, .inl f))) (k := i) (x := nI (n - 1 - i)) h59 sT_s (by omega) (by omega)
    rw [sTsT] at g2
    have hlt : ¬ nI n ≤ nI i := nI_ge (by omega) (by omega)
    obtain ⟨f', e1, e2⟩ := ih m (i + 1) (upd f i (nI (n - 1 - i))) (by omega) (by omega) (fun j hj => by
      by_cases z : j = i
      · subst z; rw [pk_us]
      · rw [pk_un z, hf j (by omega)])
    refine ⟨f', ?_, e2⟩
    simp only [l_X3_orderOf_17, b_X3_orderOf_17, g, hlt, if_false, Option.bind_some, nI_m1 n (by omega), pk_sub (show i ≤ n - 1 by omega), g2, nI_1, e1]
theorem ordL_e (ls : List LNV) (b : Nat) : ordL ls b = (List.range ls.length).filter fun i => match ls[i]? with
  | some l => l.1 == b
  | none => false := rfl
theorem fil_part (P : Nat → Bool) (l : List Nat) : (l.filter P).length + (l.filter fun i => !(P i)).length = l.length := by
  induction l with
  | nil => rfl
  | cons x l ih => cases h : P x <;> simp [h] <;> omega
/-- two sets of LINES, one behind the other -/
theorem k_two (N : Nat) (hN : 20 ≤ N) {qo n : Nat} (h59 : 62 ≤ qo) (hn : n ≤ 12) {f : Nat → Int32} {al s : Int32} (P : Nat → Bool) (ha : ∀ j, j < 32 → bt al j = decide (j < n)) (hs : ∀ j, j < 32 → bt s j = (decide (j < n) && P j)) : ∃ f', b_X3_orderOf_69 N (hp X C M (sT T qo (.inl (0, n, .inl f)))) al (some qo) s = some (some qo, hp X C M (sT T qo (.inl (0, n, .inl f')))) ∧ ∀ j k, ((List.range n).filter P ++ (List.range n).filter fun i => !(P i))[j]? = some k → f' j = nI k := by
  have l1 := lsB_0 hn P (s := s) fun j hj => hs j (by omega)
  have l2 := lsB_0 hn (fun j => !(P j)) (s := al &&& (s ^^^ (-1))) fun j hj => by
    rw [b_and, bt_not s (by omega), ha j (by omega), hs j (by omega)]
    by_cases q : j < n <;> simp [q]
  have hlen := fil_part P (List.range n)
  rw [List.length_range] at hlen
  obtain ⟨f1, e1, e2, e3⟩ := k_addL (X := X) (C := C) (M := M) (T := T) N h59 (show n < 2 ^ 31 by omega) s 12 N 0 0 f rfl (by omega) (by rw [l1]; omega)
  obtain ⟨f2, e4, e5, e6⟩ := k_addL (X := X) (C := C) (M := M) (T := T) N h59 (show n < 2 ^ 31 by omega) (al &&& (s ^^^ (-1))) 12 N (0 + (lsB s 0).length) 0 f1 rfl (by omega) (by rw [l1, l2]; omega)
  rw [nI_0] at e1 e4
  refine ⟨f2, ?_, fun j k hk => ?_⟩
  · simp only [b_X3_orderOf_69, f_X3_addLines, b_X3_addLines, e1, e4, Option.bind_some]
  · rw [Nat.zero_add] at e5 e6
    rw [l1] at e3 e5 e6
    rw [l2] at e6
    by_cases q : j < ((List.range n).filter P).length
    · rw [List.getElem?_append_left q] at hk
      rw [e5 j q]
      have := e3 j k hk
      rwa [Nat.zero_add] at this
    · rw [List.getElem?_append_right (by omega)] at hk
      have := e6 _ k hk
      rwa [show ((List.range n).filter P).length + (j - ((List.range n).filter P).length) = j by omega] at this
theorem ord_let (ls : List LNV) (h : ∀ l ∈ ls, l.1 < 2) : (List.range ls.length).filter (letB ls) = ordL ls 1 ∧ ((List.range ls.length).filter fun i => !(letB ls i)) = ordL ls 0 := by
  constructor
  · rfl
  · rw [ordL_e]
    refine List.filter_congr fun i hi => ?_
    obtain ⟨l, hl⟩ := at_ex ls (List.mem_range.mp hi)
    have := h l (List.mem_of_getElem? hl)
    unfold letB
    rw [hl]
    rcases (show l.1 = 0 ∨ l.1 = 1 by omega) with q | q <;> simp [q]
theorem k_order (N : Nat) (hN : 20 ≤ N) {n how : Nat} {ls : List LNV} (hl : ls.length = n) (hn : n ≤ 12) (hh : how < 4) (h51 : 54 ≤ T.1) (hL : ∀ l ∈ ls, l.1 < 2) {lt : Int32} (hlt : ∀ j, j < 32 → bt lt j = letB ls j) : ∃ fo, f_X3_orderOf N (hp X C M T) (nI how) (((1 : Int32) <<< (nI n &&& 31)) - 1) lt (nI n) = some (some (8 + T.1), hp X C M (aT T (.inl (0, n, .inl fo)) n)) ∧ ∀ (i k : Nat), (ordR (how, ls))[i]? = some k → fo i = nI k := by
  have mx : mmx (0 : Int32) (nI n) = nI n := by
    unfold mmx
    by_cases q : (0 : Int32) < nI n
    · rw [if_pos q]
    · rw [if_neg q]
      have : ¬ 0 < n := fun z => q (by rw [← nI_0]; exact nI_lt z (by omega))
      rw [show n = 0 by omega]; rfl
  have es : ∀ f, aT T (.inl (0, n, .inl f)) n = sT (aT T (.inl (0, n, .inl fun _ => 0)) n) (8 + T.1) (.inl (0, n, .inl f)) := by
    intro f
    unfold aT sT
    simp only [Prod.mk.injEq, true_and]
    funext j
    by_cases h : j = 8 + T.1
    · subst h; rw [vu_s, vu_s]
    · rw [vu_n h, vu_n h, vu_n h]
  have g := nI_hp (X := X) (C := C) (M := M) (t := 0) (n := n) h51 (by omega)
  have h59 : 62 ≤ 8 + T.1 := by omega
  have ha : ∀ j, j < 32 → bt (((1 : Int32) <<< (nI n &&& 31)) - 1) j = decide (j < n) := fun j hj => bt_all hn hj
  have hlt2 : ∀ j, j < 32 → bt lt j = (decide (j < n) && letB ls j) := fun j hj => by
    rw [hlt j hj]
    by_cases q : j < n
    · simp [q]
    · have : letB ls j = false := by unfold letB; rw [List.getElem?_eq_none (by omega)]
      rw [this, Bool.and_false]
  obtain ⟨o1, o2⟩ := ord_let ls hL
  rw [hl] at o1 o2
  have t : nI 0 = 0 ∧ nI 1 = 1 ∧ nI 2 = 2 ∧ nI 3 = 3 := by decide
  obtain ⟨t0, t1, t2, t3⟩ := t
  rcases (show how = 0 ∨ how = 1 ∨ how = 2 ∨ how = 3 by omega) with rfl | rfl | rfl | rfl
  · obtain ⟨f', e1, e2⟩ := k_two (X := X) (C := C) (M := M) (T := aT T (.inl (0, n, .inl fun _ => 0)) n) N hN h59 hn (f := fun _ => 0) (s := ((1 : Int32) <<< (nI n &&& 31)) - 1) (fun _ => true) ha (fun j hj => by rw [ha j hj, Bool.and_true])
    refine ⟨f', ?_, fun i k hk => e2 i k ?_⟩
    · rw [← es, ← es] at e1
      simp only [f_X3_orderOf, b_X3_orderOf, mx, g, Option.bind_some, t0, show ¬ (0 : Int32) = 1 by decide, if_true, if_false, hn_hp, e1]
    · have : ordR (0, ls) = List.range n := by unfold ordR; rw [if_pos rfl, hl]
      rw [this] at hk
      have u1 : ∀ l : List Nat, l.filter (fun _ => true) = l := fun l => List.filter_eq_self.mpr fun _ _ => rfl
      have u2 : ∀ l : List Nat, l.filter (fun _ => !true) = [] := fun l => List.filter_eq_nil_iff.mpr fun _ _ => by simp
      rw [u1, u2, List.append_nil]
      exact hk
  · obtain ⟨f', e1, e2⟩ := k_rev (X := X) (C := C) (M := M) (T := aT T (.inl (0, n, .inl fun _ => 0)) n) N h59 hn n N 0 (fun _ => 0) (by omega) (by omega) (fun j hj => by omega)
    refine ⟨f', ?_, fun i k hk => ?_⟩
    · rw [← es, ← es, t0] at e1
      simp only [f_X3_orderOf, b_X3_orderOf, mx, g, Option.bind_some, t1, if_true, hn_hp, e1]
    · have : ordR (1, ls) = (List.range n).reverse := by rw [← hl]; rfl
      rw [this] at hk
      have hi := at_lt hk
      rw [List.length_reverse, List.length_range] at hi
      rw [e2 i hi]
      rw [List.getElem?_reverse (by simpa using hi), List.length_range, List.getElem?_range (by omega)] at hk
      cases hk; rfl
  · obtain ⟨f', e1, e2⟩ := k_two (X := X) (C := C) (M := M) (T := aT T (.inl (0, n, .inl fun _ => 0)) n) N hN h59 hn (f := fun _ => 0) (al := ((1 : Int32) <<< (nI n &&& 31)) - 1) (s := (((1 : Int32) <<< (nI n &&& 31)) - 1) &&& (lt ^^^ (-1))) (fun j => !(letB ls j)) ha (fun j hj => by rw [b_and, bt_not lt hj, ha j hj, hlt j hj])
    refine ⟨f', ?_, fun i k hk => e2 i k ?_⟩
    · rw [← es, ← es] at e1
      simp only [f_X3_orderOf, b_X3_orderOf, mx, g, Option.bind_some, t2, show ¬ (2 : Int32) = 1 by decide, show ¬ (2 : Int32) = 0 by decide, show ¬ (2 : Int32) = 3 by decide, if_false, hn_hp, e1]
    · have : ordR (2, ls) = ordL ls 0 ++ ordL ls 1 := rfl
      rw [this] at hk
      simp only [Bool.not_not]
      rw [o1, o2]
      exact hk
  · obtain ⟨f', e1, e2⟩ := k_two (X := X) (C := C) (M := M) (T := aT T (.inl (0, n, .inl fun _ => 0)) n) N hN h59 hn (f := fun _ => 0) (al := ((1 : Int32) <<< (nI n &&& 31)) - 1) (s := lt) (fun j => letB ls j) ha hlt2
    refine ⟨f', ?_, fun i k hk => e2 i k ?_⟩
    · rw [← es, ← es] at e1
      simp only [f_X3_orderOf, b_X3_orderOf, mx, g, Option.bind_some, t3, show ¬ (3 : Int32) = 1 by decide, show ¬ (3 : Int32) = 0 by decide, if_true, if_false, hn_hp, e1]
    · have : ordR (3, ls) = ordL ls 1 ++ ordL ls 0 := rfl
      rw [this] at hk
      rw [o1, o2]
      exact hk
/-- the constructor of Rules -/
theorem k_rules_init (N : Nat) (hN : 20 ≤ N) {q ql n how : Nat} {ls : List LNV} (h51 : 54 ≤ T.1) (h59 : 62 ≤ q) (hq8 : q < 8 + T.1) (hq : T.2.2 q = .inr (3, [LI 0, LR none, LR none])) (hA : LsA T ql n ls) (hn : n ≤ 12) (hh : how < 4) : ∃ fo T', f_X3_init N (hp X C M T) (some q) (nI how) (some ql) = some (hp X C M T') ∧ T'.1 = T.1 + 1 ∧ T'.2.1 = T.2.1 + n ∧ T'.2.2 q = .inr (3, [LI (nI how), LR (some ql), LR (some (8 + T.1))]) ∧ T'.2.2 (8 + T.1) = .inl (0, n, .inl fo) ∧ (∀ p, p ≠ q → p ≠ 8 + T.1 → T'.2.2 p = T.2.2 p) ∧ ∀ (i k : Nat), (ordR (how, ls))[i]? = some k → fo i = nI k := by
  have hL2 : ∀ l ∈ ls, l.1 < 2 := fun l hl => by
    obtain ⟨i, hi⟩ := List.getElem?_of_mem hl
    obtain ⟨-, -, fl, -, h4⟩ := hA
    exact (h4 i l hi).1
  have hlen := hA.2.1
  have i0 := isO_hp (X := X) (C := C) (M := M) h59 hq
  have p1 := pF_hp (X := X) (C := C) (M := M) (k := 0) (v := LI (nI how)) h59 hq (by simp)
  have p2 := pF_hp (X := X) (C := C) (M := M) (T := sT T q (.inr (3, [LI (nI how), LR none, LR none]))) (k := 1) (v := LR (some ql)) h59 sT_s (by simp)
  rw [sTsT] at p2
  have hA2 : LsA (sT T q (.inr (3, [LI (nI how), LR (some ql), LR none]))) ql n ls := by
    obtain ⟨h1, h2, fl, h3, h4⟩ := hA
    refine ⟨h1, h2, fl, (sT_n ?_).trans h3, fun i l hl => ?_⟩
    · rintro rfl; rw [hq] at h3; cases h3
    · obtain ⟨h5, p, fs, h6, h7, h8⟩ := h4 i l hl
      refine ⟨h5, p, fs, h6, h7, (sT_n ?_).trans h8⟩
      rintro rfl; rw [hq] at h8; cases h8
  obtain ⟨w, e1, e2⟩ := k_lets (X := X) (C := C) (M := M) N hA2 hn n N 0 0 (by omega) (by omega) (fun j hj => by rw [b_0]; simp)
  have g : ln6 (hp X C M (sT T q (.inr (3, [LI (nI how), LR (some ql), LR none])))) (some ql) = some (nI n) := by
    obtain ⟨h1, h2, fl, h3, h4⟩ := hA2
    exact ln_hp h1 h3 (by decide)
  obtain ⟨fo, e3, e4⟩ := k_order (X := X) (C := C) (M := M) (T := sT T q (.inr (3, [LI (nI how), LR (some ql), LR none]))) N hN hlen hn hh h51 hL2 e2
  have p3 := pF_hp (X := X) (C := C) (M := M) (T := aT (sT T q (.inr (3, [LI (nI how), LR (some ql), LR none]))) (.inl (0, n, .inl fo)) n) (k := 2) (v := LR (some (8 + T.1))) (q := q) (ci := 3) (fs := [LI (nI how), LR (some ql), LR none]) h59 ((aT_n (by rw [sT_1]; omega)).trans sT_s) (by simp)
  rw [nI_0] at e1
  refine ⟨fo, sT (aT (sT T q (.inr (3, [LI (nI how), LR (some ql), LR none]))) (.inl (0, n, .inl fo)) n) q (.inr (3, [LI (nI how), LR (some ql), LR (some (8 + T.1))])), ?_, ?_, ?_, ?_, ?_, ?_, e4⟩
  · simp only [f_X3_init, b_X3_init, i0, if_true, p1, Option.bind_some]
    simp only [List.set, p2, Option.bind_some, g, f_X3_letsOf, b_X3_letsOf, e1, e3, sT_1, p3]
  · rfl
  · rfl
  · exact sT_s
  · exact (sT_n (by omega)).trans aT_s
  · intro p hp1 hp2
    rw [sT_n hp1, aT_n (by rw [sT_1]; exact hp2), sT_n hp1]
end TTT
