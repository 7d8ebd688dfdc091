/-! the reference's stages -/
section MSA
variable {A A1 A2 A3 A4 A5 A6 : LH} {q q1 q2 qr : Option Nat} {N : Nat} {a b c d v x y p1 p2 p3 p4 p5 top : Int32}
theorem ite10 {α : Type} (p : Prop) [Decidable p] (a b : α) : (if (if p then (1 : Int32) else 0) = 0 then a else b) = if p then b else a := by
  by_cases hp : p
  · rw [if_pos hp, if_pos hp, if_neg i1_ne]
  · rw [if_neg hp, if_neg hp, if_pos rfl]
theorem mn_t (h0 : isO A q 11 = true) (h1 : gI A q 11 26 = some x) (hx : x = 0) (h2 : pF A q 11 26 (LI c) = some A1) (h3 : pF A1 q 11 27 (LI d) = some A2) : f_X11_note A q c d = some A2 := by
  unfold f_X11_note b_X11_note
  rw [if_pos h0, bnd_eq h1, if_pos hx, bnd_eq h2, bnd_eq h3]
theorem mn_f (h0 : isO A q 11 = true) (h1 : gI A q 11 26 = some x) (hx : ¬ x = 0) : f_X11_note A q c d = some A := by
  unfold f_X11_note b_X11_note
  rw [if_pos h0, bnd_eq h1, if_neg hx]
theorem nu_w (h0 : isO A q 11 = true) (h1 : gI A q 11 21 = some x) (hx : ¬ x = 3) (h2 : f_X11_wrong A q = some (0, A1)) : f_X11_number N A q top = some (0, A1) := by
  unfold f_X11_number b_X11_number
  rw [if_pos h0, bnd_eq h1, if_neg hx, bnd_eq h2, zc_0]
theorem nu_a (h0 : isO A q 11 = true) (h1 : gI A q 11 21 = some x) (hx : x = 3) (h2 : gI A q 11 22 = some v) (h3 : pF A q 11 35 (LI v) = some A1) (h4 : gI A1 q 11 35 = some v) (h5 : v ≤ top) (h6 : f_X11_next N A1 q = some A2) : f_X11_number N A q top = some (1, A2) := by
  unfold f_X11_number b_X11_number b_X11_number_38
  rw [if_pos h0, bnd_eq h1, if_pos hx, bnd_eq h2, bnd_eq h3, bnd_eq h4, if_pos h5, bnd_eq h6, zc_1]
theorem nu_b (h0 : isO A q 11 = true) (h1 : gI A q 11 21 = some x) (hx : x = 3) (h2 : gI A q 11 22 = some v) (h3 : pF A q 11 35 (LI v) = some A1) (h4 : gI A1 q 11 35 = some v) (h5 : ¬ v ≤ top) (h6 : gI A1 q 11 20 = some y) (h7 : f_X11_note A1 q 2 y = some A2) (h8 : f_X11_next N A2 q = some A3) : f_X11_number N A q top = some (1, A3) := by
  unfold f_X11_number b_X11_number b_X11_number_38
  rw [if_pos h0, bnd_eq h1, if_pos hx, bnd_eq h2, bnd_eq h3, bnd_eq h4, if_neg h5, bnd_eq h6, bnd_eq h7, bnd_eq h8, zc_1]
theorem wh_ab (h0 : isO A q 11 = true) (e1 : f_X11_isWord A q 6384748 = some p1) (e2 : f_X11_isWord A q 444301538672 = some p2) (e3 : f_X11_isWord A q 7302757 = some p3) (e4 : f_X11_isWord A q 478745093490 = some p4) (e5 : f_X11_isWord A q 427020345714 = some p5) : f_X11_who N A q v = zc (if p1 = 0 then (if p2 = 0 then (if p3 = 0 then (if p4 = 0 then (if p5 = 0 then b_X11_who_71 N A q v (-1) else b_X11_who_71 N A q v 4) else b_X11_who_71 N A q v 3) else b_X11_who_71 N A q v 2) else b_X11_who_71 N A q v 1) else b_X11_who_71 N A q v 0) := by
  unfold f_X11_who b_X11_who
  rw [if_pos h0, bnd_eq e1, e2, e3, e4, e5]
  rfl
theorem wh_w (ha : a = -1) (h1 : f_X11_wrong A q = some (0, A1)) : b_X11_who_71 N A q v a = some (0, A1) := by
  unfold b_X11_who_71
  rw [if_pos ha, bnd_eq h1]
theorem wh_71 {P : Option (Int32 × LH)} (ha : ¬ a = -1) (h1 : f_X11_next N A q = some A1) (h2 : gR A1 q 11 32 = some q1) (h3 : sI A1 q1 0 (v + 1) a = some A2) (h4 : gR A2 q 11 32 = some q1) (h5 : sI A2 q1 0 (v + 2) 0 = some A3) (h6 : (if a = 0 then some ((1 : Int32), A3) else if a = (3 : Int32) then some ((1 : Int32), A3) else if a = (1 : Int32) then b_X11_who_137 N A3 q v (7 : Int32) q else if a = (2 : Int32) then b_X11_who_137 N A3 q v (15 : Int32) q else b_X11_who_137 N A3 q v (5 : Int32) q) = P) : b_X11_who_71 N A q v a = P := by
  unfold b_X11_who_71
  rw [if_neg ha, bnd_eq h1, bnd_eq h2, bnd_eq h3, bnd_eq h4, bnd_eq h5, h6]
theorem wh_137 (h1 : f_X11_number N A q top = some (d, A1)) (h2 : gR A1 q 11 32 = some q1) (h3 : gI A1 q 11 35 = some x) (h4 : sI A1 q1 0 (v + 2) x = some A2) : b_X11_who_137 N A q v top q = some (d, A2) := by
  unfold b_X11_who_137
  rw [bnd_eq h1, bnd_eq h2, bnd_eq h3, bnd_eq h4]
theorem wa_ab (h0 : isO A q 11 = true) (e1 : f_X11_isWord A q 6384748 = some p1) (e2 : f_X11_isWord A q 1802071652 = some p2) (e3 : f_X11_isWord A q 499967946343 = some p3) (e4 : f_X11_isWord A q 465558725996 = some p4) : f_X11_what N A q v = zc (if p1 = 0 then (if p2 = 0 then (if p3 = 0 then (if p4 = 0 then b_X11_what_57 N A q v (-1) else b_X11_what_57 N A q v 3) else b_X11_what_57 N A q v 2) else b_X11_what_57 N A q v 1) else b_X11_what_57 N A q v 0) := by
  unfold f_X11_what b_X11_what
  rw [if_pos h0, bnd_eq e1, e2, e3, e4]
  rfl
theorem wa_w (ha : a = -1) (h1 : f_X11_wrong A q = some (0, A1)) : b_X11_what_57 N A q v a = some (0, A1) := by
  unfold b_X11_what_57
  rw [if_pos ha, bnd_eq h1]
theorem wa_57 {P : Option (Int32 × LH)} (ha : ¬ a = -1) (h1 : f_X11_next N A q = some A1) (h2 : gR A1 q 11 32 = some q1) (h3 : sI A1 q1 0 (v + 4) a = some A2) (h4 : gR A2 q 11 32 = some q1) (h5 : sI A2 q1 0 (v + 5) 0 = some A3) (h6 : (if a = 0 then some ((1 : Int32), A3) else if a = (1 : Int32) then b_X11_what_118 N A3 q v (7 : Int32) q else if a = (2 : Int32) then b_X11_what_118 N A3 q v (15 : Int32) q else b_X11_what_118 N A3 q v (5 : Int32) q) = P) : b_X11_what_57 N A q v a = P := by
  unfold b_X11_what_57
  rw [if_neg ha, bnd_eq h1, bnd_eq h2, bnd_eq h3, bnd_eq h4, bnd_eq h5, h6]
theorem wa_118 (h1 : f_X11_number N A q top = some (d, A1)) (h2 : gR A1 q 11 32 = some q1) (h3 : gI A1 q 11 35 = some x) (h4 : sI A1 q1 0 (v + 5) x = some A2) : b_X11_what_118 N A q v top q = some (d, A2) := by
  unfold b_X11_what_118
  rw [bnd_eq h1, bnd_eq h2, bnd_eq h3, bnd_eq h4]
theorem ac_ab (h0 : isO A q 11 = true) (e1 : f_X11_isWord A q 6385273 = some p1) (e2 : f_X11_isWord A q 1919246692 = some p2) (e3 : f_X11_isWord A q 513020621925 = some p3) (e4 : f_X11_isWord A q 495672455781 = some p4) (e5 : f_X11_isWord A q 1685221232 = some p5) : f_X11_act N A q v = zc (if p1 = 0 then (if p2 = 0 then (if p3 = 0 then (if p4 = 0 then (if p5 = 0 then b_X11_act_71 N A q v (-1) else b_X11_act_71 N A q v 3) else b_X11_act_71 N A q v 2) else b_X11_act_71 N A q v 1) else b_X11_act_71 N A q v 0) else b_X11_act_71 N A q v 4) := by
  unfold f_X11_act b_X11_act
  rw [if_pos h0, bnd_eq e1, e2, e3, e4, e5]
  rfl
theorem ac_w (ha : a = -1) (h1 : f_X11_wrong A q = some (0, A1)) : b_X11_act_71 N A q v a = some (0, A1) := by
  unfold b_X11_act_71
  rw [if_pos ha, bnd_eq h1]
theorem ac_71 (ha : ¬ a = -1) (h1 : f_X11_next N A q = some A1) (h2 : gR A1 q 11 32 = some q1) (h3 : sI A1 q1 0 (v + 3) a = some A2) : b_X11_act_71 N A q v a = some (1, A2) := by
  unfold b_X11_act_71
  rw [if_neg ha, bnd_eq h1, bnd_eq h2, bnd_eq h3]
theorem bg_n (h0 : isO A q 11 = true) (h1 : pF A q 11 29 (LI 0) = some A1) (h2 : f_X11_isWord A1 q 25209 = some x) (hx : x = 0) : f_X11_beginning N A q = some (1, A1) := by
  unfold f_X11_beginning b_X11_beginning
  rw [if_pos h0, bnd_eq h1, bnd_eq h2, if_pos hx, zc_1]
theorem bg_y (h0 : isO A q 11 = true) (h1 : pF A q 11 29 (LI 0) = some A1) (h2 : f_X11_isWord A1 q 25209 = some 1) (h3 : f_X11_next N A1 q = some A2) (e1 : f_X11_isWord A2 q 439855772532 = some p1) (e2 : f_X11_isWord A2 q 1818325876 = some p2) (e3 : f_X11_isWord A2 q 1937010544 = some p3) (e4 : f_X11_isWord A2 q 7103860 = some p4) : f_X11_beginning N A q = zc (if p1 = 0 then (if p2 = 0 then (if p3 = 0 then (if p4 = 0 then b_X11_beginning_79 N A2 q (-1) q else b_X11_beginning_79 N A2 q 3 q) else b_X11_beginning_79 N A2 q 2 q) else b_X11_beginning_79 N A2 q 1 q) else b_X11_beginning_79 N A2 q 0 q) := by
  unfold f_X11_beginning b_X11_beginning
  rw [if_pos h0, bnd_eq h1, bnd_eq h2, if_neg i1_ne, bnd_eq h3, bnd_eq e1, e2, e3, e4]
  rfl
theorem bg_w (h1 : pF A q 11 29 (LI a) = some A1) (h2 : gI A1 q 11 29 = some a) (ha : a = -1) (h3 : f_X11_wrong A1 q = some (0, A2)) : b_X11_beginning_79 N A q a q = some (0, A2) := by
  unfold b_X11_beginning_79
  rw [bnd_eq h1, bnd_eq h2, if_pos ha, bnd_eq h3]
theorem bg_79 (h1 : pF A q 11 29 (LI a) = some A1) (h2 : gI A1 q 11 29 = some a) (ha : ¬ a = -1) (h3 : f_X11_next N A1 q = some A2) (h4 : f_X11_need N A2 q 59 = some (d, A3)) : b_X11_beginning_79 N A q a q = some (d, A3) := by
  unfold b_X11_beginning_79
  rw [bnd_eq h1, bnd_eq h2, if_neg ha, bnd_eq h3, bnd_eq h4]
end MSA
section MSB
variable {X : XS} {C : CS} {M M' : MS} {T : TS} {tp : List Nat} {s : SN} {N : Nat} {D : List (Nat × Nat)}
theorem W_0 : (25209 : Int64) = wJ [98,121] := by decide
theorem W_1 : (439855772532 : Int64) = wJ [102,105,114,115,116] := by decide
theorem W_2 : (1818325876 : Int64) = wJ [108,97,115,116] := by decide
theorem W_3 : (1937010544 : Int64) = wJ [115,116,111,112] := by decide
theorem W_4 : (7103860 : Int64) = wJ [108,101,116] := by decide
theorem W_5 : (6384748 : Int64) = wJ [97,108,108] := by decide
theorem W_6 : (444301538672 : Int64) = wJ [103,114,111,117,112] := by decide
theorem W_7 : (7302757 : Int64) = wJ [111,110,101] := by decide
theorem W_10 : (1919246692 : Int64) = wJ [114,101,97,100] := by decide
theorem W_11 : (513020621925 : Int64) = wJ [119,114,105,116,101] := by decide
theorem W_12 : (495672455781 : Int64) = wJ [115,104,97,114,101] := by decide
theorem W_13 : (1685221232 : Int64) = wJ [100,114,111,112] := by decide
theorem W_14 : (6385273 : Int64) = wJ [97,110,121] := by decide
theorem W_16 : (499967946343 : Int64) = wJ [116,104,105,110,103] := by decide
theorem W_18 : (2003330414 : Int64) = wJ [119,104,101,110] := by decide
def NTm (n : NT) (M : MS) : Prop := match n with
  | none => M.1 26 = 0
  | some x => M.1 26 = nI x.1 ∧ M.1 27 = nI x.2 ∧ (x.1 = 2 ∨ x.1 = 3)
theorem NTm.k {n : NT} (h : NTm n M) (h7 : M'.1 26 = M.1 26) (h8 : M'.1 27 = M.1 27) : NTm n M' := by
  cases n with
  | none => exact h7.trans h
  | some x => exact ⟨h7.trans h.1, h8.trans h.2.1, h.2.2⟩
/-- all is well so far -/
def RLv (tp : List Nat) (M : MS) (s : SN) (D : List (Nat × Nat)) : Prop := MLv tp M s.2 D ∧ M.1 28 = nI 0 ∧ NTm s.1 M ∧ M.1 24 = 0 ∧ M.1 25 = -1
/-- what the reading of lines leaves alone -/
def Fr2 (M M' : MS) : Prop := (∀ j, j < 18 ∨ j = 19 ∨ j = 29 ∨ j = 30 ∨ 35 < j → M'.1 j = M.1 j) ∧ ∀ j, j ≠ 32 → j ≠ 33 → j ≠ 34 → M'.2.2 j = M.2.2 j
theorem Fr2.rf : Fr2 M M := ⟨fun _ _ => rfl, fun _ _ _ _ => rfl⟩
theorem Fr2.tr {M2 : MS} (h : Fr2 M M') (h2 : Fr2 M' M2) : Fr2 M M2 := ⟨fun j hj => (h2.1 j hj).trans (h.1 j hj), fun j a b c => (h2.2 j a b c).trans (h.2 j a b c)⟩
theorem Fr2.of (h : MFr M M') : Fr2 M M' ∧ M'.2.2 32 = M.2.2 32 := ⟨⟨fun j hj => h.1 j (by omega), fun j a b c => h.2 j b c⟩, h.2 32 (by decide) (by decide)⟩
theorem Fr2.m0 {k : Nat} {v : Int32} (h : Fr2 M M') (hk : k = 24 ∨ k = 25 ∨ k = 26 ∨ k = 27 ∨ k = 35) : Fr2 M (m0 M' k v) := ⟨fun j hj => (m0_n (by omega)).trans (h.1 j hj), h.2⟩
theorem fr_32 {f : Nat → Int32} : Fr2 M (ma M 32 f) := ⟨fun _ _ => rfl, fun j a b c => by rw [ma_22, up_n _ _ a]⟩
theorem MLv.eq {τ : TOK} (h : MLv tp M τ D) (h1 : ∀ j, j = 18 ∨ j = 19 ∨ j = 20 ∨ j = 21 ∨ j = 22 ∨ j = 31 → M'.1 j = M.1 j) (h2 : M'.2.1 = M.2.1) (h3 : ∀ j, j = 1 ∨ j = 33 ∨ j = 34 → M'.2.2 j = M.2.2 j) : MLv tp M' τ D := by
  obtain ⟨a1, a2, a3, a4, a5⟩ := h
  refine ⟨⟨?_, a1.2⟩, ⟨?_, ?_, ?_⟩, a3, ?_, ?_⟩
  · rw [h1 19 (by decide), h3 1 (by decide)]; exact a1.1
  · rw [h1 21 (by decide), h1 22 (by decide), h2]; exact a2.1
  · rw [h1 20 (by decide)]; exact a2.2.1
  · rw [h1 18 (by decide)]; exact a2.2.2
  · rw [h1 31 (by decide)]; exact a4
  · rw [h3 33 (by decide), h3 34 (by decide)]; exact a5
theorem RLv.m0 {k : Nat} {v : Int32} (h : RLv tp M s D) (hk : k = 29 ∨ k = 30 ∨ k = 35) : RLv tp (m0 M k v) s D :=
  ⟨h.1.eq (fun j hj => m0_n (by omega)) rfl (fun _ _ => rfl), (m0_n (by omega)).trans h.2.1, h.2.2.1.k (m0_n (by omega)) (m0_n (by omega)), (m0_n (by omega)).trans h.2.2.2.1, (m0_n (by omega)).trans h.2.2.2.2⟩
theorem RLv.r32 {f : Nat → Int32} (h : RLv tp M s D) : RLv tp (ma M 32 f) s D :=
  ⟨h.1.eq (fun j hj => rfl) rfl (fun j hj => by rw [ma_22, up_n _ _ (by omega)]), h.2.1, h.2.2.1.k rfl rfl, h.2.2.2.1, h.2.2.2.2⟩
theorem RLv.mk {τ : TOK} {D' : List (Nat × Nat)} (h : RLv tp M s D) (h1 : MLv tp M' τ D') (h2 : MKp M M') : RLv tp M' (s.1, τ) D' :=
  ⟨h1, (h2.2.2.1 28 (by decide)).trans h.2.1, h.2.2.1.k (h2.2.2.1 26 (by decide)) (h2.2.2.1 27 (by decide)), h2.1.trans h.2.2.2.1, h2.2.1.trans h.2.2.2.2⟩
def RDd (M : MS) (e : Nat) : Prop := M.1 24 = 1 ∧ M.1 25 = nI e
theorem m_nx (hN : 700 ≤ N) (h : RLv tp M s D) : ∃ M', f_X11_next N (hp X C M T) (some 35) = some (hp X C M' T) ∧ RLv tp M' (s.1, nx tp s.2) D ∧ Fr2 M M' ∧ M'.2.2 32 = M.2.2 32 ∧ M'.1 35 = M.1 35 := by
  obtain ⟨M1, k1, k2, k3⟩ := r_nx (X := X) (C := C) (T := T) hN h.1
  exact ⟨M1, k1, h.mk k2 k3, (Fr2.of k3.2.2).1, (Fr2.of k3.2.2).2, k3.2.2.1 35 (by decide)⟩
theorem m_wrong (h : RLv tp M s D) : ∃ M', f_X11_wrong (hp X C M T) (some 35) = some (0, hp X C M' T) ∧ RDd M' s.2.2.2.1 ∧ Fr2 M M' := by
  obtain ⟨M1, k1, k2, k3⟩ := r_wrong (X := X) (C := C) (T := T) (s := D.length) h.1 (by omega)
  exact ⟨M1, k1, ⟨k2.2.1, k2.2.2.1⟩, (Fr2.of k3).1⟩
theorem m_note {c : Nat} (h : RLv tp M s D) (hc : c = 2 ∨ c = 3) : ∃ M', f_X11_note (hp X C M T) (some 35) (nI c) (nI s.2.2.2.1) = some (hp X C M' T) ∧ RLv tp M' (nte s.1 c s.2.2.2.1, s.2) D ∧ Fr2 M M' ∧ M'.2.2 32 = M.2.2 32 ∧ M'.1 35 = M.1 35 := by
  obtain ⟨n, τ⟩ := s
  obtain ⟨h1, h2, h3, h4, h5⟩ := h
  cases n with
  | none =>
    refine ⟨_, mn_t io_35 gi_35_26 h3 (pi_35_26 _) (pi_35_27 _), ⟨h1.eq (fun j hj => by rw [m0_n (by omega), m0_n (by omega)]) rfl (fun _ _ => rfl), ?_, ⟨?_, m0_s, hc⟩, ?_, ?_⟩, (Fr2.rf.m0 (by decide)).m0 (by decide), rfl, ?_⟩
    · rw [m0_n (by decide), m0_n (by decide)]; exact h2
    · rw [m0_n (by decide), m0_s]
    · rw [m0_n (by decide), m0_n (by decide)]; exact h4
    · rw [m0_n (by decide), m0_n (by decide)]; exact h5
    · rw [m0_n (by decide), m0_n (by decide)]
  | some x =>
    refine ⟨M, mn_f io_35 gi_35_26 ?_, ⟨h1, h2, h3, h4, h5⟩, Fr2.rf, rfl, rfl⟩
    rw [h3.1]
    exact ne_nI (b := 0) (by have := h3.2.2; omega) (by have := h3.2.2; omega) (by decide)
end MSB
