/-! thing, moves, gives, tell, ask, mark, book -/
theorem len1 {α : Type} (l : List α) (x : α) : l.length + 1 = (l ++ [x]).length := by simp
section OPB
variable {X : XS} {C : CS} {M : MS} {T : TS} {S : SG} {K : Nat}
/-- what is told changes, but not the RULES -/
theorem INV.told (h : INV S C M T K) {t : TLD} {C' : CS} {M' : MS} (hsl : t_sl t = t_sl (s_told S)) (hw : WTld t) (hc : C'.1 0 = C.1 0 ∧ C'.1 29 = C.1 29 ∧ C'.1 30 = C.1 30 ∧ C'.2.1 0 = C.2.1 0 ∧ C'.2.2 = C.2.2) (hR : RTab t (C'.1 9) (C'.1 10) (C'.1 11) (C'.2.1 2) (C'.2.1 3) (C'.2.1 4))
    (hm : M'.1 2 = M.1 2 ∧ M'.1 24 = M.1 24 ∧ M'.1 25 = M.1 25 ∧ M'.1 36 = M.1 36 ∧ M'.1 41 = M.1 41 ∧ M'.1 42 = M.1 42 ∧ M'.1 43 = M.1 43 ∧ M'.1 44 = M.1 44) (hb : M'.2.2 1 = M.2.2 1 ∧ M'.2.2 13 = M.2.2 13 ∧ M'.2.2 14 = M.2.2 14 ∧ M'.2.2 15 = M.2.2 15 ∧ M'.2.2 16 = M.2.2 16 ∧ M'.2.2 17 = M.2.2 17 ∧ M'.2.2 37 = M.2.2 37 ∧ M'.2.2 45 = M.2.2 45 ∧ M'.2.2 46 = M.2.2 46 ∧ M'.2.2 49 = M.2.2 49)
    (hT : MTab t 0 M'.2.2) (hA : ∀ j, 0 < j → Agr j M.2.2 M'.2.2) : INV (s_tape S, t, S.2.2) C' M' T (K + 1) := by
  obtain ⟨hW, hC, hM⟩ := h
  obtain ⟨w1, w2, ⟨w3, w4⟩, w5, w6⟩ := hW
  obtain ⟨a1, a2, a3, a4, a5, mu, a6, a7⟩ := hC
  obtain ⟨m1, m2, m3, m4, m5, m6, m7⟩ := hM
  obtain ⟨c1, c2, c3, c4, c5⟩ := hc
  obtain ⟨d1, d2, d3, d4, d5, d6, d7, d8⟩ := hm
  obtain ⟨e1, e2, e3, e4, e5, e6, e7, e8, e9, e10⟩ := hb
  refine ⟨⟨w1, w2, ⟨hw, fun i hi => by rw [show t_sl t i = t_sl (s_told S) i from congrFun hsl i]; exact w4 i hi⟩, w5, fun m hm => ?_⟩, ⟨by rw [c1, c4]; exact a1, hR, by rw [c2, c3]; exact a3, a4, a5, mu, ?_, ?_⟩, ⟨by rw [d1, e1]; exact m1, hT, ?_, by rw [d2, d3]; exact m4, ?_, ?_, MIm.agr (S := S) m7 w5 rfl e10 hA⟩⟩
  · have := w6 m hm
    exact ⟨this.1, this.2.1, this.2.2.1, this.2.2.2.1, fun hf c hc => by show c.1 < (t_sl t m.1).2.length; rw [hsl]; exact this.2.2.2.2 hf c hc⟩
  · rw [c5]; show RSl mu T (t_sl t) _; rw [hsl]; exact a6
  · rw [c5]; exact a7
  · show MSl M'.2.2 0 (t_sl t)
    rw [hsl]
    intro i hi
    have := m3 i hi
    unfold MLn at this ⊢
    rw [e2, e3, e4, e5, e6]
    exact this
  · unfold MMd at m5 ⊢
    rw [d5, d6, d7, d8, e7, e8, e9]
    exact m5
  · have := m6.up
    unfold MTe at this ⊢
    rw [d4, d7, e7]
    exact this
theorem RTab.thg {t : TLD} {np nt na : Int32} {fp ft fa : Nat → Int32} (h : RTab t np nt na fp ft fa) (p : Nat × Nat × Nat) : RTab (t_ppl t, t_thg t ++ [p], t.2.2) np (nI ((t_thg t).length + 1)) na fp (upd (upd (upd ft ((t_thg t).length * 3) (nI p.1)) ((t_thg t).length * 3 + 1) (nI p.2.1)) ((t_thg t).length * 3 + 2) (nI p.2.2)) fa := by
  obtain ⟨h1, h2, h3, h4, h5, h6⟩ := h
  refine ⟨h1, congrArg nI (len1 _ p), h3, h4, fun i q hq => ?_, h6⟩
  rcases ap_some hq with ⟨hq, hi⟩ | ⟨rfl, rfl⟩
  · simp (disch := omega) only [pk_un]
    exact h5 i q hq
  · simp (disch := omega) only [pk_un, pk_us, and_self]
theorem MTab.thg {t : TLD} {b b' : Nat → Nat → Int32} (h : MTab t 0 b) (p : Nat × Nat × Nat) (h3 : b' 3 = b 3) (h6 : b' 6 0 = nI ((t_thg t).length + 1)) (h10 : b' 10 = b 10) (h4 : b' 4 = b 4) (h5 : b' 5 = b 5) (h7 : b' 7 = upd (b 7) (t_thg t).length (nI p.1)) (h8 : b' 8 = upd (b 8) (t_thg t).length (nI p.2.1)) (h9 : b' 9 = upd (b 9) (t_thg t).length (nI p.2.2)) (h11 : b' 11 = b 11) (h12 : b' 12 = b 12) : MTab (t_ppl t, t_thg t ++ [p], t.2.2) 0 b' := by
  obtain ⟨g1, g2, g3, g4, g5, g6⟩ := h
  refine ⟨by rw [h3]; exact g1, h6.trans (congrArg nI (len1 _ p)), by rw [h10]; exact g3, by rw [h4, h5]; exact g4, fun i q hq => ?_, by rw [h11, h12]; exact g6⟩
  rw [h7, h8, h9]
  rcases ap_some hq with ⟨hq, hi⟩ | ⟨rfl, rfl⟩
  · simp (disch := omega) only [pk_un]
    exact g5 i q hq
  · simp only [Nat.mul_zero, Nat.zero_add, pk_us, and_self]
theorem WTld.thg {t : TLD} (h : WTld t) {p : Nat × Nat × Nat} (hl : (t_thg t).length < 16) (h1 : p.1 < 8) (h2 : p.2.1 < 6) (h3 : p.2.2 < (t_ppl t).length) : WTld (t_ppl t, t_thg t ++ [p], t.2.2) := by
  obtain ⟨g1, g2, g3, g4, g5, g6⟩ := h
  have hL : (t_thg (t_ppl t, t_thg t ++ [p], t.2.2)).length = (t_thg t).length + 1 := by show (t_thg t ++ [p]).length = _; simp
  refine ⟨g1, by omega, g3, g4, fun i q hq => ?_, fun i q hq => ?_⟩
  · rcases ap_some hq with ⟨hq, -⟩ | ⟨-, rfl⟩
    · exact g5 i q hq
    · exact ⟨h1, h2, h3⟩
  · have := g6 i q hq
    exact ⟨this.1, this.2.1, by omega, this.2.2.2⟩
theorem k_thing_t {n k v o np : Nat} (hn : C.1 10 = nI n) (h16 : n < 16) (hk : k ≤ 7) (hv : v ≤ 5) (hpp : C.1 9 = nI np) (ho : o < np) (hp16 : np ≤ 16) : f_X10_thing (hp X C M T) (some 8) (nI k) (nI v) (nI o) = some (nI n, hp X (ca (c0 C 10 (nI (n + 1))) 3 (upd (upd (upd (C.2.1 3) (n * 3) (nI k)) (n * 3 + 1) (nI v)) (n * 3 + 2) (nI o))) M T) := by
  have e1 := th_set (X := X) (M := M) (T := T) (C := c0 C 10 (nI (n + 1))) (n := n + 1) (k := n) (j := 0) (x := nI k) rfl (by omega) (by omega) (by decide)
  have e2 := th_set (X := X) (M := M) (T := T) (C := ca (c0 C 10 (nI (n + 1))) 3 (upd (C.2.1 3) (n * 3) (nI k))) (n := n + 1) (k := n) (j := 1) (x := nI v) rfl (by omega) (by omega) (by decide)
  have e3 := th_set (X := X) (M := M) (T := T) (C := ca (c0 C 10 (nI (n + 1))) 3 (upd (upd (C.2.1 3) (n * 3) (nI k)) (n * 3 + 1) (nI v))) (n := n + 1) (k := n) (j := 2) (x := nI o) rfl (by omega) (by omega) (by decide)
  simp only [nI_0, nI_1', nI_2, c0_1, c0_2, ca_1, ca_21, ca_22, cr_1, cr_21, cr_22, m0_1, m0_2, ma_1, ma_21, ma_22, c0c0, caca, crcr, m0m0, mama, up_s, Nat.add_zero] at e1 e2 e3
  simp only [f_X10_thing, b_X10_thing, io_8, if_true, ← nI_7, ← nI_5, upTo_t (nI_pos (show k < 2 ^ 31 by omega)) (nI_nlt hk (by decide)), upTo_t (nI_pos (show v < 2 ^ 31 by omega)) (nI_nlt hv (by decide)), Option.bind_some, i1_ne, if_false, gr_8_2, gr_18_0, gr_18_1, tb_has_t (tb_p hpp) ho (by omega), th_add hn h16, e1, e2, e3]
end OPB
