/-! the text read: the reference's small methods -/
section RMA
variable {A A1 A2 A3 A4 A5 A6 : LH} {q q1 q2 : Option Nat} {N : Nat} {a b c d x y : Int32} {w : Int64}
theorem iw_n (h0 : isO A q 11 = true) (h1 : gI A q 11 21 = some x) (h2 : ¬ x = 2) : f_X11_isWord A q w = some 0 := by
  unfold f_X11_isWord b_X11_isWord
  rw [if_pos h0, bnd_eq h1, if_neg h2, zd_0]
theorem iw_t {v : Int64} (h0 : isO A q 11 = true) (h1 : gI A q 11 21 = some x) (h2 : x = 2) (h3 : gJ A q 11 23 = some v) (h4 : v = w) : f_X11_isWord A q w = some 1 := by
  unfold f_X11_isWord b_X11_isWord
  rw [if_pos h0, bnd_eq h1, if_pos h2, bnd_eq h3, if_pos ((lg_cmp_eq v w).mpr h4), zd_1]
theorem iw_f {v : Int64} (h0 : isO A q 11 = true) (h1 : gI A q 11 21 = some x) (h3 : gJ A q 11 23 = some v) (h4 : ¬ v = w) : f_X11_isWord A q w = some 0 := by
  by_cases h2 : x = 2
  · unfold f_X11_isWord b_X11_isWord
    rw [if_pos h0, bnd_eq h1, if_pos h2, bnd_eq h3, if_neg (fun z => h4 ((lg_cmp_eq v w).mp z)), zd_0]
  · exact iw_n h0 h1 h2
theorem is_t (h0 : isO A q 11 = true) (h1 : gI A q 11 21 = some x) (h2 : x = 4) (h3 : gI A q 11 22 = some y) (h4 : y = c) : f_X11_isSign A q c = some 1 := by
  unfold f_X11_isSign b_X11_isSign
  rw [if_pos h0, bnd_eq h1, if_pos h2, bnd_eq h3, if_pos h4, zd_1]
theorem is_f (h0 : isO A q 11 = true) (h1 : gI A q 11 21 = some x) (h3 : gI A q 11 22 = some y) (h4 : ¬ (x = 4 ∧ y = c)) : f_X11_isSign A q c = some 0 := by
  unfold f_X11_isSign b_X11_isSign
  by_cases h2 : x = 4
  · rw [if_pos h0, bnd_eq h1, if_pos h2, bnd_eq h3, if_neg (fun z => h4 ⟨h2, z⟩), zd_0]
  · rw [if_pos h0, bnd_eq h1, if_neg h2, zd_0]
theorem wr_g (h0 : isO A q 11 = true) (h1 : pF A q 11 24 (LI 1) = some A1) (h2 : gI A1 q 11 20 = some x) (h3 : pF A1 q 11 25 (LI x) = some A2) : f_X11_wrong A q = some (0, A2) := by
  unfold f_X11_wrong b_X11_wrong
  rw [if_pos h0, bnd_eq h1, bnd_eq h2, bnd_eq h3, zc_0]
theorem nd_t' (h0 : isO A q 11 = true) (h1 : f_X11_isSign A q c = some 1) (h2 : f_X11_next N A q = some A1) : f_X11_need N A q c = some (1, A1) := by
  unfold f_X11_need b_X11_need
  rw [if_pos h0, bnd_eq h1, if_neg i1_ne, bnd_eq h2, zc_1]
theorem nd_f' (h0 : isO A q 11 = true) (h1 : f_X11_isSign A q c = some d) (hd : d = 0) (h2 : f_X11_wrong A q = some (0, A1)) : f_X11_need N A q c = some (0, A1) := by
  unfold f_X11_need b_X11_need
  rw [if_pos h0, bnd_eq h1, if_pos hd, bnd_eq h2, zc_0]
theorem pt_g (h0 : isO A q 11 = true) (h1 : gR A q 11 33 = some q1) (h2 : gI A q 11 31 = some x) (h3 : sI A q1 1 x ((a).toInt8.toInt32).toInt8.toInt32 = some A1) (h4 : gR A1 q 11 34 = some q2) (h5 : gI A1 q 11 31 = some x) (h6 : sI A1 q2 0 x b = some A2) (h7 : gI A2 q 11 31 = some x) (h8 : pF A2 q 11 31 (LI (x + 1)) = some A3) : f_X11_put A q a b = some A3 := by
  unfold f_X11_put b_X11_put
  rw [if_pos h0, bnd_eq h1, bnd_eq h2, bnd_eq h3, bnd_eq h4, bnd_eq h5, bnd_eq h6, bnd_eq h7, bnd_eq h8]
theorem tm_108 (h1 : f_X11_put A q1 a b = some A1) (h2 : f_X11_next N A1 q = some A2) : b_X11_term_108 N A q b a q1 = some (1, A2) := by
  unfold b_X11_term_108
  rw [bnd_eq h1, bnd_eq h2]
theorem tm_83_w (h0 : a = -1) (h1 : f_X11_wrong A q = some (0, A1)) : b_X11_term_83 N A q a = some (0, A1) := by
  unfold b_X11_term_83
  rw [if_pos h0, bnd_eq h1]
theorem tm_83_n (h0 : ¬ a = -1) (h1 : a = 0) (h2 : gI A q 11 22 = some x) (h3 : b_X11_term_108 N A q x a q = some (1, A1)) : b_X11_term_83 N A q a = some (1, A1) := by
  unfold b_X11_term_83
  rw [if_neg h0, if_pos h1, bnd_eq h2, h3]
theorem tm_83_o (h0 : ¬ a = -1) (h1 : ¬ a = 0) (h3 : b_X11_term_108 N A q 0 a q = some (1, A1)) : b_X11_term_83 N A q a = some (1, A1) := by
  unfold b_X11_term_83
  rw [if_neg h0, if_neg h1, h3]
end RMA
section RMB
variable {X : XS} {C : CS} {M : MS} {T : TS} {tp : List Nat} {τ : TOK} {N : Nat}
theorem gL_lt {c : Nat} (h : gL c = true) : 39 < c ∧ c < 63 := by
  unfold gL at h
  simp only [Bool.or_eq_true, beq_iff_eq] at h
  rcases h with rfl | rfl | rfl | rfl | rfl | rfl <;> decide
theorem r_word {i : Nat} {u : List Nat} {w : Int64} (h : TM M τ) (hi : i < 24) (hu : WL[i]? = some u) (hw : w = wJ u) (hk : τ.1 = 300 + i) : f_X11_isWord (hp X C M T) (some 35) w = some 1 := by
  rcases h.1 with h1 | h1 | h1 | h1 | ⟨v, h2, h3, h4, h5⟩
  · omega
  · omega
  · omega
  · have := gL_lt h1.1; omega
  · exact iw_t io_35 gi_35_21 h3 gj_35_23 (by rw [h4, hw]; exact (kOf_K hi hu h2).mpr (h5.symm.trans hk))
theorem r_word_f {i : Nat} {u : List Nat} {w : Int64} (h : TM M τ) (hi : i < 24) (hu : WL[i]? = some u) (hw : w = wJ u) (hk : τ.1 ≠ 300 + i) : f_X11_isWord (hp X C M T) (some 35) w = some 0 := by
  rcases h.1 with h1 | h1 | h1 | h1 | ⟨v, h2, h3, h4, h5⟩
  · exact iw_n io_35 (gi_35_21.trans (congrArg some h1.2)) (by decide)
  · exact iw_n io_35 (gi_35_21.trans (congrArg some h1.2.1)) (by decide)
  · exact iw_n io_35 (gi_35_21.trans (congrArg some h1.2)) (by decide)
  · exact iw_n io_35 (gi_35_21.trans (congrArg some h1.2.1)) (by decide)
  · exact iw_f io_35 gi_35_21 gj_35_23 (by rw [h4, hw]; exact fun z => hk (h5.trans ((kOf_K hi hu h2).mp z)))
theorem r_sign {c : Nat} (h : TM M τ) (hc : gL c = true) (hk : τ.1 = c) : f_X11_isSign (hp X C M T) (some 35) (nI c) = some 1 := by
  have hl := gL_lt hc
  rcases h.1 with h1 | h1 | h1 | h1 | ⟨v, h2, h3, h4, h5⟩
  · omega
  · omega
  · omega
  · exact is_t io_35 gi_35_21 h1.2.1 gi_35_22 (by rw [h1.2.2, hk])
  · rcases kOf_2 v with h6 | h6 <;> omega
theorem r_sign_f {c : Nat} (h : TM M τ) (hc : gL c = true) (hk : τ.1 ≠ c) : f_X11_isSign (hp X C M T) (some 35) (nI c) = some 0 := by
  have hl := gL_lt hc
  refine is_f io_35 gi_35_21 gi_35_22 (fun z => ?_)
  rcases h.1 with h1 | h1 | h1 | h1 | ⟨v, h2, h3, h4, h5⟩
  · rw [h1.2] at z; exact absurd z.1 (by decide)
  · rw [h1.2.1] at z; exact absurd z.1 (by decide)
  · rw [h1.2] at z; exact absurd z.1 (by decide)
  · have := gL_lt h1.1
    exact ne_nI hk (by omega) (by omega) (h1.2.2.symm.trans z.2)
  · rw [h3] at z; exact absurd z.1 (by decide)
/-- what the reading of a 'when' leaves alone -/
def MFr (M M' : MS) : Prop := (∀ j, j < 18 ∨ j = 19 ∨ (25 < j ∧ j ≠ 31) → M'.1 j = M.1 j) ∧ ∀ j, j ≠ 33 → j ≠ 34 → M'.2.2 j = M.2.2 j
theorem MFr.rf : MFr M M := ⟨fun _ _ => rfl, fun _ _ _ => rfl⟩
theorem MFr.tr {M' M2 : MS} (h : MFr M M') (h2 : MFr M' M2) : MFr M M2 := ⟨fun j hj => (h2.1 j hj).trans (h.1 j hj), fun j a b => (h2.2 j a b).trans (h.2 j a b)⟩
theorem MFr.of {M' : MS} (h : MT M M') : MFr M M' := ⟨fun j hj => h.1 j (by omega), fun j _ _ => by rw [h.2]⟩
theorem MFr.m0 {M' : MS} {k : Nat} {v : Int32} (h : MFr M M') (hk : k = 18 ∨ k = 20 ∨ k = 21 ∨ k = 22 ∨ k = 24 ∨ k = 25 ∨ k = 31) : MFr M (m0 M' k v) := ⟨fun j hj => (m0_n (by omega)).trans (h.1 j hj), h.2⟩
theorem MFr.ma {M' : MS} {k : Nat} {f : Nat → Int32} (h : MFr M M') (hk : k = 33 ∨ k = 34) : MFr M (ma M' k f) := ⟨h.1, fun j a b => (by rw [ma_22, up_n _ _ (by omega)]; exact h.2 j a b)⟩
theorem MP.fr {M' : MS} (h : MP tp M) (h2 : MFr M M') : MP tp M' := by
  refine ⟨?_, h.2⟩
  rw [h2.1 19 (Or.inr (Or.inl rfl)), h2.2 1 (by decide) (by decide)]; exact h.1
/-- faults are kept -/
def MKp (M M' : MS) : Prop := M'.1 24 = M.1 24 ∧ M'.1 25 = M.1 25 ∧ MFr M M'
theorem MKp.rf : MKp M M := ⟨rfl, rfl, MFr.rf⟩
theorem MKp.tr {M' M2 : MS} (h : MKp M M') (h2 : MKp M' M2) : MKp M M2 := ⟨h2.1.trans h.1, h2.2.1.trans h.2.1, h.2.2.tr h2.2.2⟩
/-- the codes so far -/
def CD (M : MS) (D : List (Nat × Nat)) : Prop := M.1 31 = nI D.length ∧ ∀ (i : Nat) (x : Nat × Nat), D[i]? = some x → M.2.2 33 i = nI x.1 ∧ M.2.2 34 i = nI x.2 ∧ x.1 < 16
def MLv (tp : List Nat) (M : MS) (τ : TOK) (D : List (Nat × Nat)) : Prop := MP tp M ∧ TM M τ ∧ wfT tp τ ∧ CD M D
def MDd (tp : List Nat) (M : MS) (e s : Nat) : Prop := MP tp M ∧ M.1 24 = 1 ∧ M.1 25 = nI e ∧ ∃ n, M.1 31 = nI n ∧ n ≤ 600 + s
variable {D : List (Nat × Nat)}
theorem MDd.up {e s s' : Nat} (h : MDd tp M e s) (hs : s ≤ s') : MDd tp M e s' := by
  obtain ⟨h1, h2, h3, n, h4, h5⟩ := h
  exact ⟨h1, h2, h3, n, h4, by omega⟩
theorem r_nx (hN : 700 ≤ N) (h : MLv tp M τ D) : ∃ M', f_X11_next N (hp X C M T) (some 35) = some (hp X C M' T) ∧ MLv tp M' (nx tp τ) D ∧ MKp M M' := by
  obtain ⟨h1, h2, h3, h5⟩ := h
  obtain ⟨M', k1, k2, k3⟩ := m_next (X := X) (C := C) (T := T) N hN h1 h2.2.2 h3.2.1
  obtain ⟨w1, w2⟩ := nx_wf h3 h1.2.2
  exact ⟨M', k1, ⟨h1.mt k3, k2, w1, (k3.1 31 (by decide)).trans h5.1, by rw [k3.2]; exact h5.2⟩, k3.1 24 (by decide), k3.1 25 (by decide), MFr.of k3⟩
theorem r_wrong {s : Nat} (h : MLv tp M τ D) (hD : D.length ≤ 600 + s) : ∃ M', f_X11_wrong (hp X C M T) (some 35) = some (0, hp X C M' T) ∧ MDd tp M' τ.2.2.1 s ∧ MFr M M' := by
  obtain ⟨h1, h2, h3, h5⟩ := h
  have cf : MFr M (m0 (m0 M 24 1) 25 (nI τ.2.2.1)) := (MFr.rf.m0 (by decide)).m0 (by decide)
  refine ⟨m0 (m0 M 24 1) 25 (nI τ.2.2.1), wr_g io_35 (pi_35_24 _) (x := nI τ.2.2.1) ?_ (pi_35_25 _), ⟨h1.fr cf, ?_, m0_s, D.length, ?_, hD⟩, cf⟩
  · rw [gi_35_20, m0_n (by decide), h2.2.1]
  · rw [m0_n (by decide), m0_s]
  · rw [m0_n (by decide), m0_n (by decide), h5.1]
theorem r_need {c : Nat} (hN : 700 ≤ N) (h : MLv tp M τ D) (hc : gL c = true) (hk : τ.1 = c) : ∃ M', f_X11_need N (hp X C M T) (some 35) (nI c) = some (1, hp X C M' T) ∧ MLv tp M' (nx tp τ) D ∧ MKp M M' := by
  obtain ⟨M', k1, k2, k3⟩ := r_nx (X := X) (C := C) (T := T) hN h
  exact ⟨M', nd_t' io_35 (r_sign h.2.1 hc hk) k1, k2, k3⟩
theorem r_need_f {c s : Nat} (h : MLv tp M τ D) (hD : D.length ≤ 600 + s) (hc : gL c = true) (hk : τ.1 ≠ c) : ∃ M', f_X11_need N (hp X C M T) (some 35) (nI c) = some (0, hp X C M' T) ∧ MDd tp M' τ.2.2.1 s ∧ MFr M M' := by
  obtain ⟨M', k1, k2, k3⟩ := r_wrong (X := X) (C := C) (T := T) h hD
  exact ⟨M', nd_f' io_35 (r_sign_f h.2.1 hc hk) rfl k1, k2, k3⟩
theorem r_by {a : Nat} (h : a < 16) : ((nI a).toInt8.toInt32).toInt8.toInt32 = nI a := by
  have : ∀ a : Fin 16, ((nI a.val).toInt8.toInt32).toInt8.toInt32 = nI a.val := by decide
  exact this ⟨a, h⟩
theorem r_pt {a b n : Nat} (h31 : M.1 31 = nI n) (hn : n < 900) (ha : a < 16) : f_X11_put (hp X C M T) (some 35) (nI a) (nI b) = some (hp X C (m0 (ma (ma M 33 (upd (M.2.2 33) n (nI a))) 34 (upd (M.2.2 34) n (nI b))) 31 (nI (n + 1))) T) := by
  refine pt_g io_35 gr_35_33 (x := nI n) (gi_35_31.trans (congrArg some h31)) (A1 := hp X C (ma M 33 (upd (M.2.2 33) n (nI a))) T) ?_ gr_35_34 (gi_35_31.trans (congrArg some h31)) (A2 := hp X C (ma (ma M 33 (upd (M.2.2 33) n (nI a))) 34 (upd (M.2.2 34) n (nI b))) T) ?_ (gi_35_31.trans (congrArg some h31)) ?_
  · rw [r_by ha]; exact si_53 hn
  · exact si_54 (M := ma M 33 (upd (M.2.2 33) n (nI a))) hn
  · rw [nI_1]; exact pi_35_31 _
theorem CD.put {a b : Nat} (h : CD M D) (ha : a < 16) : CD (m0 (ma (ma M 33 (upd (M.2.2 33) D.length (nI a))) 34 (upd (M.2.2 34) D.length (nI b))) 31 (nI (D.length + 1))) (D ++ [(a, b)]) := by
  refine ⟨by rw [m0_s, List.length_append]; rfl, fun i x hx => ?_⟩
  show up (up M.2.2 33 (upd (M.2.2 33) D.length (nI a))) 34 (upd (M.2.2 34) D.length (nI b)) 33 i = nI x.1 ∧ up (up M.2.2 33 (upd (M.2.2 33) D.length (nI a))) 34 (upd (M.2.2 34) D.length (nI b)) 34 i = nI x.2 ∧ x.1 < 16
  rw [up_n _ _ (by decide), up_s, up_s]
  rcases ap_some hx with ⟨h1, h2⟩ | ⟨rfl, rfl⟩
  · exact ⟨(if_neg (by omega)).trans (h.2 i x h1).1, (if_neg (by omega)).trans (h.2 i x h1).2.1, (h.2 i x h1).2.2⟩
  · exact ⟨if_pos rfl, if_pos rfl, ha⟩
theorem pt_fr {f g : Nat → Int32} {v : Int32} : MKp M (m0 (ma (ma M 33 f) 34 g) 31 v) := ⟨m0_n (by decide), m0_n (by decide), ((MFr.rf.ma (by decide)).ma (by decide)).m0 (by decide)⟩
theorem r_put {a b : Nat} (h : MLv tp M τ D) (hb : D.length < 900) (ha : a < 16) : ∃ M', f_X11_put (hp X C M T) (some 35) (nI a) (nI b) = some (hp X C M' T) ∧ MLv tp M' τ (D ++ [(a, b)]) ∧ MKp M M' := by
  obtain ⟨h1, h2, h3, h5⟩ := h
  refine ⟨_, r_pt h5.1 hb ha, ⟨h1.fr pt_fr.2.2, ⟨?_, ?_, ?_⟩, h3, h5.put ha⟩, pt_fr⟩
  · rw [m0_n (by decide), m0_n (by decide)]; exact h2.1
  · rw [m0_n (by decide)]; exact h2.2.1
  · rw [m0_n (by decide)]; exact h2.2.2
theorem d_put {a b e s : Nat} (h : MDd tp M e s) (hs : s ≤ 100) (ha : a < 16) : ∃ M', f_X11_put (hp X C M T) (some 35) (nI a) (nI b) = some (hp X C M' T) ∧ MDd tp M' e (s + 1) ∧ MFr M M' := by
  obtain ⟨h1, h2, h3, n, h4, h5⟩ := h
  refine ⟨_, r_pt h4 (by omega) ha, ⟨h1.fr pt_fr.2.2, pt_fr.1.trans h2, pt_fr.2.1.trans h3, n + 1, m0_s, by omega⟩, pt_fr.2.2⟩
end RMB
