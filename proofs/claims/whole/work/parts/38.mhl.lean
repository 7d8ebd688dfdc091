/-! the reference: a 'when' tested, a LINE held, the LINE that decides -/
section MHL
variable {X : XS} {C : CS} {M : MS} {T : TS} {S : SG} {K : Nat}
def mT (M : MS) (f : Nat → Int32) : MS := ma M 38 f
theorem mT_1 {f : Nat → Int32} : (mT M f).1 = M.1 := rfl
theorem mT_38 {f : Nat → Int32} : (mT M f).2.2 38 = f := ma_s M 38 f
theorem mT_n {f : Nat → Int32} {a : Nat} (h : a ≠ 38) : (mT M f).2.2 a = M.2.2 a := ma_n M f h
theorem mT_ma {f g : Nat → Int32} : ma (mT M f) 38 g = mT M g := mama _ _ _ _
theorem mT_id : mT M (M.2.2 38) = M := ma_id M 38
theorem mT_mT {f g : Nat → Int32} : mT (mT M f) g = mT M g := mama _ _ _ _
/-- the reference's rows for a case -/
def MEv (M : MS) (e : EV) : Prop := M.2.2 4 (e_p e) = nI (e_g e) ∧ M.2.2 5 (e_p e) = nI (e_c e) ∧ M.2.2 7 (e_t e) = nI (e_k e) ∧ M.2.2 8 (e_t e) = nI (e_l e) ∧ ∃ o, o < 16 ∧ M.2.2 9 (e_t e) = nI o ∧ e_o e = (o == e_p e)
theorem ones_mono (N : Nat) : ∀ (m k : Nat) (a b r : Int32), l_X11_ones_4 N m a b = some r → l_X11_ones_4 N (m + k) a b = some r := by
  intro m
  induction m with
  | zero => intro k a b r h; cases h
  | succ m ih =>
    intro k a b r h
    rw [show m + 1 + k = (m + k) + 1 by omega]
    simp only [l_X11_ones_4, b_X11_ones_4] at h ⊢
    split at h
    · rename_i q; rw [if_pos q]; exact h
    · rename_i q; rw [if_neg q]; exact ih k _ _ _ h
theorem ones_N (N N' : Nat) : ∀ (m : Nat) (a b : Int32), l_X11_ones_4 N m a b = l_X11_ones_4 N' m a b := by
  intro m
  induction m with
  | zero => intro a b; rfl
  | succ m ih => intro a b; simp only [l_X11_ones_4, b_X11_ones_4, ih]
theorem ones_8 : ∀ g, g < 256 → l_X11_ones_4 0 9 0 (nI g) = some (nI (pcN g)) := by decide +kernel
theorem m_ones (N : Nat) (hN : 9 ≤ N) {g : Nat} (hg : g < 256) : f_X11_ones N (nI g) = some (nI (pcN g)) := by
  simp only [f_X11_ones, b_X11_ones]
  rw [show N = 9 + (N - 9) by omega, ones_N _ 0]
  exact ones_mono 0 9 _ _ _ _ (ones_8 g hg)
theorem sbit (x : Int32) {n : Nat} (hn : n < 32) : ((x >>> (nI n &&& 31)) &&& 1 = 0) ↔ bt x n = false := by
  constructor
  · intro h
    have h2 : bt ((x >>> (nI n &&& 31)) &&& 1) 0 = bt 0 0 := by rw [h]
    rw [b_and, b_sshr n hn x (by decide), if_pos (by omega), bt1 0 (by decide), b_0] at h2
    simpa using h2
  · intro h
    refine b_ext fun j hj => ?_
    rw [b_and, b_0, bt1 j hj]
    by_cases q : j = 0
    · subst q; rw [b_sshr n hn x (by decide), if_pos (by omega), Nat.add_zero, h]; rfl
    · simp [q]
theorem bnd_eq {α β : Type} {o : Option α} {a : α} {f : α → Option β} (h : o = some a) : o.bind f = f a := by rw [h]; rfl
section TST
variable {A A1 : LH} {q q16 q38 : Option Nat} {v3 v4 v5 v6 v7 x y v : Int32}
theorem te_0 (N m : Nat) (g16 : gR A q 11 16 = some q16) (a16 : aI A q16 1 v7 = some 0) (g38 : gR A q 11 38 = some q38) {q17 : Option Nat} (g17 : gR A q 11 17 = some q17) (a17 : aI A q17 0 v7 = some v) (s : sI A q38 0 v6 v = some A1) : l_X11_tested_12 N (m + 1) A q v3 v4 v5 v6 v7 = l_X11_tested_12 N m A1 q v3 v4 v5 (v6 + 1) (v7 + 1) := by
  show b_X11_tested_12 N _ A q v3 v4 v5 v6 v7 = _
  unfold b_X11_tested_12
  (repeat (first | with_reducible rfl | refine (bnd_eq (by first | with_reducible assumption)).trans ?_ | refine (if_pos (by first | with_reducible assumption | with_reducible rfl | decide | (dsimp only; first | with_reducible assumption | with_reducible rfl | decide))).trans ?_ | refine (if_neg (by first | with_reducible assumption | decide | (dsimp only; first | with_reducible assumption | decide))).trans ?_ | unfold b_X11_tested_153))
theorem te_1 (N m : Nat) (g16 : gR A q 11 16 = some q16) (a16 : aI A q16 1 v7 = some 1) (g38 : gR A q 11 38 = some q38) (s : sI A q38 0 v6 v5 = some A1) : l_X11_tested_12 N (m + 1) A q v3 v4 v5 v6 v7 = l_X11_tested_12 N m A1 q v3 v4 v5 (v6 + 1) (v7 + 1) := by
  show b_X11_tested_12 N _ A q v3 v4 v5 v6 v7 = _
  unfold b_X11_tested_12
  (repeat (first | with_reducible rfl | refine (bnd_eq (by first | with_reducible assumption)).trans ?_ | refine (if_pos (by first | with_reducible assumption | with_reducible rfl | decide | (dsimp only; first | with_reducible assumption | with_reducible rfl | decide))).trans ?_ | refine (if_neg (by first | with_reducible assumption | decide | (dsimp only; first | with_reducible assumption | decide))).trans ?_ | unfold b_X11_tested_153))
theorem te_2 (N m : Nat) (g16 : gR A q 11 16 = some q16) (a16 : aI A q16 1 v7 = some 2) (g38 : gR A q 11 38 = some q38) {q5 : Option Nat} (g5 : gR A q 11 5 = some q5) (a5 : aI A q5 0 v3 = some v) (s : sI A q38 0 v6 v = some A1) : l_X11_tested_12 N (m + 1) A q v3 v4 v5 v6 v7 = l_X11_tested_12 N m A1 q v3 v4 v5 (v6 + 1) (v7 + 1) := by
  show b_X11_tested_12 N _ A q v3 v4 v5 v6 v7 = _
  unfold b_X11_tested_12
  (repeat (first | with_reducible rfl | refine (bnd_eq (by first | with_reducible assumption)).trans ?_ | refine (if_pos (by first | with_reducible assumption | with_reducible rfl | decide | (dsimp only; first | with_reducible assumption | with_reducible rfl | decide))).trans ?_ | refine (if_neg (by first | with_reducible assumption | decide | (dsimp only; first | with_reducible assumption | decide))).trans ?_ | unfold b_X11_tested_153))
theorem te_3 (N m : Nat) (g16 : gR A q 11 16 = some q16) (a16 : aI A q16 1 v7 = some 3) (g38 : gR A q 11 38 = some q38) {q8 : Option Nat} (g8 : gR A q 11 8 = some q8) (a8 : aI A q8 0 v4 = some v) (s : sI A q38 0 v6 v = some A1) : l_X11_tested_12 N (m + 1) A q v3 v4 v5 v6 v7 = l_X11_tested_12 N m A1 q v3 v4 v5 (v6 + 1) (v7 + 1) := by
  show b_X11_tested_12 N _ A q v3 v4 v5 v6 v7 = _
  unfold b_X11_tested_12
  (repeat (first | with_reducible rfl | refine (bnd_eq (by first | with_reducible assumption)).trans ?_ | refine (if_pos (by first | with_reducible assumption | with_reducible rfl | decide | (dsimp only; first | with_reducible assumption | with_reducible rfl | decide))).trans ?_ | refine (if_neg (by first | with_reducible assumption | decide | (dsimp only; first | with_reducible assumption | decide))).trans ?_ | unfold b_X11_tested_153))
theorem te_4 (N m : Nat) (g16 : gR A q 11 16 = some q16) (a16 : aI A q16 1 v7 = some 4) (g38 : gR A q 11 38 = some q38) {q7 : Option Nat} (g7 : gR A q 11 7 = some q7) (a7 : aI A q7 0 v4 = some v) (s : sI A q38 0 v6 v = some A1) : l_X11_tested_12 N (m + 1) A q v3 v4 v5 v6 v7 = l_X11_tested_12 N m A1 q v3 v4 v5 (v6 + 1) (v7 + 1) := by
  show b_X11_tested_12 N _ A q v3 v4 v5 v6 v7 = _
  unfold b_X11_tested_12
  (repeat (first | with_reducible rfl | refine (bnd_eq (by first | with_reducible assumption)).trans ?_ | refine (if_pos (by first | with_reducible assumption | with_reducible rfl | decide | (dsimp only; first | with_reducible assumption | with_reducible rfl | decide))).trans ?_ | refine (if_neg (by first | with_reducible assumption | decide | (dsimp only; first | with_reducible assumption | decide))).trans ?_ | unfold b_X11_tested_153))
theorem te_5 (N m : Nat) (g16 : gR A q 11 16 = some q16) (a16 : aI A q16 1 v7 = some 5) (g38 : gR A q 11 38 = some q38) {q4 : Option Nat} (g4 : gR A q 11 4 = some q4) (a4 : aI A q4 0 v3 = some x) (o : f_X11_ones N x = some v) (s : sI A q38 0 v6 v = some A1) : l_X11_tested_12 N (m + 1) A q v3 v4 v5 v6 v7 = l_X11_tested_12 N m A1 q v3 v4 v5 (v6 + 1) (v7 + 1) := by
  show b_X11_tested_12 N _ A q v3 v4 v5 v6 v7 = _
  unfold b_X11_tested_12
  (repeat (first | with_reducible rfl | refine (bnd_eq (by first | with_reducible assumption)).trans ?_ | refine (if_pos (by first | with_reducible assumption | with_reducible rfl | decide | (dsimp only; first | with_reducible assumption | with_reducible rfl | decide))).trans ?_ | refine (if_neg (by first | with_reducible assumption | decide | (dsimp only; first | with_reducible assumption | decide))).trans ?_ | unfold b_X11_tested_153))
theorem te_6 (N m : Nat) (g16 : gR A q 11 16 = some q16) (a16 : aI A q16 1 v7 = some 6) (g38 : gR A q 11 38 = some q38) {q9 : Option Nat} (g9 : gR A q 11 9 = some q9) (a9 : aI A q9 0 v4 = some x) (b : Bool) (hb : b = true ↔ x = v3) (s : sI A q38 0 v6 (b01 b) = some A1) : l_X11_tested_12 N (m + 1) A q v3 v4 v5 v6 v7 = l_X11_tested_12 N m A1 q v3 v4 v5 (v6 + 1) (v7 + 1) := by
  show b_X11_tested_12 N _ A q v3 v4 v5 v6 v7 = _
  unfold b_X11_tested_12
  cases b with
  | true =>
    have hx : x = v3 := hb.mp rfl
    have s' : sI A q38 0 v6 1 = some A1 := s
    (repeat (first | with_reducible rfl | refine (bnd_eq (by first | with_reducible assumption)).trans ?_ | refine (if_pos (by first | with_reducible assumption | with_reducible rfl | decide | (dsimp only; first | with_reducible assumption | with_reducible rfl | decide))).trans ?_ | refine (if_neg (by first | with_reducible assumption | decide | (dsimp only; first | with_reducible assumption | decide))).trans ?_ | unfold b_X11_tested_153))
  | false =>
    have hx : ¬ x = v3 := fun z => Bool.noConfusion (hb.mpr z)
    have s' : sI A q38 0 v6 0 = some A1 := s
    (repeat (first | with_reducible rfl | refine (bnd_eq (by first | with_reducible assumption)).trans ?_ | refine (if_pos (by first | with_reducible assumption | with_reducible rfl | decide | (dsimp only; first | with_reducible assumption | with_reducible rfl | decide))).trans ?_ | refine (if_neg (by first | with_reducible assumption | decide | (dsimp only; first | with_reducible assumption | decide))).trans ?_ | unfold b_X11_tested_153))
theorem te_10 (N m : Nat) (g16 : gR A q 11 16 = some q16) (a16 : aI A q16 1 v7 = some 10) (g38 : gR A q 11 38 = some q38) (a38 : aI A q38 0 (v6 - 1) = some x) (s : sI A q38 0 (v6 - 1) (1 - x) = some A1) : l_X11_tested_12 N (m + 1) A q v3 v4 v5 v6 v7 = l_X11_tested_12 N m A1 q v3 v4 v5 v6 (v7 + 1) := by
  show b_X11_tested_12 N _ A q v3 v4 v5 v6 v7 = _
  unfold b_X11_tested_12
  (repeat (first | with_reducible rfl | refine (bnd_eq (by first | with_reducible assumption)).trans ?_ | refine (if_pos (by first | with_reducible assumption | with_reducible rfl | decide | (dsimp only; first | with_reducible assumption | with_reducible rfl | decide))).trans ?_ | refine (if_neg (by first | with_reducible assumption | decide | (dsimp only; first | with_reducible assumption | decide))).trans ?_))
theorem te_13 (N m : Nat) (g16 : gR A q 11 16 = some q16) (a16 : aI A q16 1 v7 = some 13) (g38 : gR A q 11 38 = some q38) (b : Bool) (a38 : aI A q38 0 0 = some (b01 b)) : l_X11_tested_12 N (m + 1) A q v3 v4 v5 v6 v7 = some (b01 b, A) := by
  show b_X11_tested_12 N _ A q v3 v4 v5 v6 v7 = _
  unfold b_X11_tested_12
  cases b with
  | true =>
    have a38' : aI A q38 0 0 = some 1 := a38
    show _ = some (1, A)
    (repeat (first | with_reducible rfl | refine (bnd_eq (by first | with_reducible assumption)).trans ?_ | refine (if_pos (by first | with_reducible assumption | with_reducible rfl | decide | (dsimp only; first | with_reducible assumption | with_reducible rfl | decide))).trans ?_ | refine (if_neg (by first | with_reducible assumption | decide | (dsimp only; first | with_reducible assumption | decide))).trans ?_))
  | false =>
    have a38' : aI A q38 0 0 = some 0 := a38
    show _ = some (0, A)
    (repeat (first | with_reducible rfl | refine (bnd_eq (by first | with_reducible assumption)).trans ?_ | refine (if_pos (by first | with_reducible assumption | with_reducible rfl | decide | (dsimp only; first | with_reducible assumption | with_reducible rfl | decide))).trans ?_ | refine (if_neg (by first | with_reducible assumption | decide | (dsimp only; first | with_reducible assumption | decide))).trans ?_))
theorem te_316 (N : Nat) (k : LH → Option Nat → Int32 → Int32 → Int32 → Int32 → Int32 → Option (Int32 × LH)) (g38 : gR A q 11 38 = some q38) (b : Bool) (s : sI A q38 0 (v6 - 1) (b01 b) = some A1) : b_X11_tested_316 N k A q v3 v4 v5 v6 v7 (b01 b) = k A1 q v3 v4 v5 v6 (v7 + 1) := by
  unfold b_X11_tested_316
  cases b with
  | true =>
    have s' : sI A q38 0 (v6 - 1) 1 = some A1 := s
    show (Option.bind _ fun x => if (1 : Int32) = 0 then _ else _) = _
    (repeat (first | with_reducible rfl | refine (bnd_eq (by first | with_reducible assumption)).trans ?_ | refine (if_pos (by first | with_reducible assumption | with_reducible rfl | decide | (dsimp only; first | with_reducible assumption | with_reducible rfl | decide))).trans ?_ | refine (if_neg (by first | with_reducible assumption | decide | (dsimp only; first | with_reducible assumption | decide))).trans ?_ | unfold b_X11_tested_336))
  | false =>
    have s' : sI A q38 0 (v6 - 1) 0 = some A1 := s
    show (Option.bind _ fun x => if (0 : Int32) = 0 then _ else _) = _
    (repeat (first | with_reducible rfl | refine (bnd_eq (by first | with_reducible assumption)).trans ?_ | refine (if_pos (by first | with_reducible assumption | with_reducible rfl | decide | (dsimp only; first | with_reducible assumption | with_reducible rfl | decide))).trans ?_ | refine (if_neg (by first | with_reducible assumption | decide | (dsimp only; first | with_reducible assumption | decide))).trans ?_ | unfold b_X11_tested_336))
/-- two of the pile become one -/
theorem te_two (N m : Nat) (o : Int32) (g16 : gR A q 11 16 = some q16) (a16 : aI A q16 1 v7 = some o) (g38 : gR A q 11 38 = some q38) (ax : aI A q38 0 (v6 + (-1) - 1) = some x) (ay : aI A q38 0 (v6 + (-1)) = some y) (b : Bool)
    (hb : o = 7 ∧ (b = true ↔ ¬ y ≤ x) ∨ o = 8 ∧ (b = true ↔ ¬ x ≤ y) ∨ o = 9 ∧ (b = true ↔ x = y) ∨ o = 11 ∧ (b = true ↔ x + y = 2) ∨ o = 12 ∧ (b = true ↔ ¬ x + y ≤ 0))
    (s : sI A q38 0 (v6 + (-1) - 1) (b01 b) = some A1) : l_X11_tested_12 N (m + 1) A q v3 v4 v5 v6 v7 = l_X11_tested_12 N m A1 q v3 v4 v5 (v6 + (-1)) (v7 + 1) := by
  have z := te_316 (v3 := v3) (v4 := v4) (v5 := v5) (v6 := v6 + (-1)) (v7 := v7) N (l_X11_tested_12 N m) g38 b s
  refine Eq.trans ?_ z
  show b_X11_tested_12 N _ A q v3 v4 v5 v6 v7 = _
  unfold b_X11_tested_12
  cases b with
  | true =>
    show _ = b_X11_tested_316 N (l_X11_tested_12 N m) A q v3 v4 v5 (v6 + (-1)) v7 1
    simp only [true_iff] at hb
    rcases hb with ⟨rfl, h⟩ | ⟨rfl, h⟩ | ⟨rfl, h⟩ | ⟨rfl, h⟩ | ⟨rfl, h⟩
    all_goals (repeat (first | with_reducible rfl | refine (bnd_eq (by first | with_reducible assumption)).trans ?_ | refine (if_pos (by first | with_reducible assumption | with_reducible rfl | decide | (dsimp only; first | with_reducible assumption | with_reducible rfl | decide))).trans ?_ | refine (if_neg (by first | with_reducible assumption | decide | (dsimp only; first | with_reducible assumption | decide))).trans ?_))
  | false =>
    show _ = b_X11_tested_316 N (l_X11_tested_12 N m) A q v3 v4 v5 (v6 + (-1)) v7 0
    simp only [Bool.false_eq_true, false_iff, Classical.not_not] at hb
    rcases hb with ⟨rfl, h⟩ | ⟨rfl, h⟩ | ⟨rfl, h⟩ | ⟨rfl, h⟩ | ⟨rfl, h⟩
    all_goals (repeat (first | with_reducible rfl | refine (bnd_eq (by first | with_reducible assumption)).trans ?_ | refine (if_pos (by first | with_reducible assumption | with_reducible rfl | decide | (dsimp only; first | with_reducible assumption | with_reducible rfl | decide))).trans ?_ | refine (if_neg (by first | with_reducible assumption | decide | (dsimp only; first | with_reducible assumption | decide))).trans ?_))
end TST
theorem sp_38 {f : Nat → Int32} {n : Nat} {x : Int32} (h : n < 64) : sI (hp X C (mT M f) T) (some 56) 0 (nI n) x = some (hp X C (mT M (upd f n x)) T) := by rw [si_56 h, mT_38, mT_ma]
theorem ap_38 {f : Nat → Int32} {n : Nat} (h : n < 64) : aI (hp X C (mT M f) T) (some 56) 0 (nI n) = some (f n) := by rw [ai_56 h, mT_38]
/-- a term is put on the pile -/
theorem m_term (N : Nat) (hN : 9 ≤ N) {e : EV} {h : Nat} (me : MEv M e) (w : WEv e) (m n ix : Nat) {f : Nat → Int32} {t : Nat} (ht : t < 1005) (hn : n < 64) (hix : ix < 14400) (h16 : M.2.2 16 ix = nI (tmS t).1) (h17 : M.2.2 17 ix = nI (tmS t).2) :
    l_X11_tested_12 N (m + 1) (hp X C (mT M f) T) (some 35) (nI (e_p e)) (nI (e_t e)) (nI h) (nI n) (nI ix) = l_X11_tested_12 N m (hp X C (mT M (upd f n (nI (vS e h t)))) T) (some 35) (nI (e_p e)) (nI (e_t e)) (nI h) (nI (n + 1)) (nI (ix + 1)) := by
  obtain ⟨w1, w2, w3, w4, w5, w6, w7⟩ := w
  obtain ⟨m1, m2, m3, m4, o, m5, m6, m7⟩ := me
  have a16 : aI (hp X C (mT M f) T) (some 50) 1 (nI ix) = some (nI (tmS t).1) := by rw [ai_50 hix, mT_n (by decide), h16]
  rw [← nI_1 n, ← nI_1 ix]
  by_cases q : t < 1000
  · have e1 : tmS t = (0, t) := if_pos q
    rw [e1] at a16 h17
    have e2 : vS e h t = t := by unfold vS; rw [if_neg (by omega), if_neg (by omega), if_neg (by omega), if_neg (by omega), if_neg (by omega)]
    rw [e2]
    exact te_0 N m gr_35_16 a16 gr_35_38 gr_35_17 (by rw [ai_51 hix, mT_n (by decide), h17]) (sp_38 hn)
  · have e1 : tmS t = (t - 999, 0) := if_neg q
    rw [e1] at a16
    rcases (show t = 1000 ∨ t = 1001 ∨ t = 1002 ∨ t = 1003 ∨ t = 1004 by omega) with rfl | rfl | rfl | rfl | rfl
    · exact te_1 N m gr_35_16 a16 gr_35_38 (sp_38 hn)
    · exact te_2 N m gr_35_16 a16 gr_35_38 gr_35_5 (by rw [ai_39 (by omega), mT_n (by decide), m2]; rfl) (sp_38 hn)
    · exact te_3 N m gr_35_16 a16 gr_35_38 gr_35_8 (by rw [ai_42 (by omega), mT_n (by decide), m4]; rfl) (sp_38 hn)
    · exact te_4 N m gr_35_16 a16 gr_35_38 gr_35_7 (by rw [ai_41 (by omega), mT_n (by decide), m3]; rfl) (sp_38 hn)
    · exact te_5 N m gr_35_16 a16 gr_35_38 gr_35_4 (by rw [ai_38 (by omega), mT_n (by decide), m1]) (m_ones N hN w4) (sp_38 hn)
theorem m_own (N : Nat) {e : EV} {h : Nat} (me : MEv M e) (w : WEv e) (m n ix : Nat) {f : Nat → Int32} (hn : n < 64) (hix : ix < 14400) (h16 : M.2.2 16 ix = 6) :
    l_X11_tested_12 N (m + 1) (hp X C (mT M f) T) (some 35) (nI (e_p e)) (nI (e_t e)) (nI h) (nI n) (nI ix) = l_X11_tested_12 N m (hp X C (mT M (upd f n (b01 (e_o e)))) T) (some 35) (nI (e_p e)) (nI (e_t e)) (nI h) (nI (n + 1)) (nI (ix + 1)) := by
  obtain ⟨w1, w2, w3, w4, w5, w6, w7⟩ := w
  obtain ⟨m1, m2, m3, m4, o, m5, m6, m7⟩ := me
  rw [← nI_1 n, ← nI_1 ix]
  refine te_6 N m gr_35_16 (by rw [ai_50 hix, mT_n (by decide), h16]) gr_35_38 gr_35_9 (x := nI o) (by rw [ai_43 (by omega), mT_n (by decide), m6]) (e_o e) ?_ (sp_38 hn)
  rw [m7, beq_iff_eq]
  exact (nI_eq (by omega) (by omega)).symm
theorem m_two (N : Nat) (m n ix o : Nat) {f : Nat → Int32} {v3 v4 v5 : Int32} (b : Bool) (hn : n + 1 < 64) (hix : ix < 14400) (h16 : M.2.2 16 ix = nI o)
    (hb : o = 7 ∧ (∃ x y, x < 2 ^ 31 ∧ y < 2 ^ 31 ∧ f n = nI x ∧ f (n + 1) = nI y ∧ b = decide (x < y)) ∨ o = 8 ∧ (∃ x y, x < 2 ^ 31 ∧ y < 2 ^ 31 ∧ f n = nI x ∧ f (n + 1) = nI y ∧ b = decide (y < x)) ∨ o = 9 ∧ (∃ x y, x < 2 ^ 31 ∧ y < 2 ^ 31 ∧ f n = nI x ∧ f (n + 1) = nI y ∧ b = decide (x = y)) ∨ o = 11 ∧ (∃ x y, f n = b01 x ∧ f (n + 1) = b01 y ∧ b = (x && y)) ∨ o = 12 ∧ (∃ x y, f n = b01 x ∧ f (n + 1) = b01 y ∧ b = (x || y))) :
    l_X11_tested_12 N (m + 1) (hp X C (mT M f) T) (some 35) v3 v4 v5 (nI (n + 2)) (nI ix) = l_X11_tested_12 N m (hp X C (mT M (upd f n (b01 b))) T) (some 35) v3 v4 v5 (nI (n + 1)) (nI (ix + 1)) := by
  have e1 : nI (n + 2) + (-1) = nI (n + 1) := pk_m1 (n + 1)
  have e2 : nI (n + 1) - 1 = nI n := nI_pred n
  have z := te_two (v3 := v3) (v4 := v4) (v5 := v5) (v6 := nI (n + 2)) (v7 := nI ix) N m (nI o) (gr_35_16 (X := X) (C := C) (M := mT M f) (T := T)) (by rw [ai_50 hix, mT_n (by decide), h16]) gr_35_38 (x := f n) (y := f (n + 1)) (by rw [e1, e2, ap_38 (by omega)]) (by rw [e1, ap_38 (by omega)]) b (A1 := hp X C (mT M (upd f n (b01 b))) T)
  rw [e1, e2, nI_1] at z
  refine z ?_ (sp_38 (by omega))
  rcases hb with ⟨rfl, x, y, hx, hy, fx, fy, rfl⟩ | ⟨rfl, x, y, hx, hy, fx, fy, rfl⟩ | ⟨rfl, x, y, hx, hy, fx, fy, rfl⟩ | ⟨rfl, x, y, fx, fy, rfl⟩ | ⟨rfl, x, y, fx, fy, rfl⟩
  · left; refine ⟨rfl, ?_⟩; rw [fx, fy, decide_eq_true_iff, nI_leI hy hx]; omega
  · right; left; refine ⟨rfl, ?_⟩; rw [fx, fy, decide_eq_true_iff, nI_leI hx hy]; omega
  · right; right; left; refine ⟨rfl, ?_⟩; rw [fx, fy, decide_eq_true_iff, nI_eq hx hy]
  · right; right; right; left; refine ⟨rfl, ?_⟩; rw [fx, fy]; cases x <;> cases y <;> decide
  · right; right; right; right; refine ⟨rfl, ?_⟩; rw [fx, fy]; cases x <;> cases y <;> decide
theorem m_not (N : Nat) (m n ix : Nat) {f : Nat → Int32} {v3 v4 v5 : Int32} (b : Bool) (hn : n < 64) (hix : ix < 14400) (h16 : M.2.2 16 ix = 10) (hb : f n = b01 b) :
    l_X11_tested_12 N (m + 1) (hp X C (mT M f) T) (some 35) v3 v4 v5 (nI (n + 1)) (nI ix) = l_X11_tested_12 N m (hp X C (mT M (upd f n (b01 (!b)))) T) (some 35) v3 v4 v5 (nI (n + 1)) (nI (ix + 1)) := by
  have e : (1 : Int32) - b01 b = b01 (!b) := by cases b <;> decide
  rw [← nI_1 ix]
  refine te_10 N m gr_35_16 (by rw [ai_50 hix, mT_n (by decide), h16]) gr_35_38 (x := b01 b) ?_ ?_
  · rw [nI_pred, ap_38 hn, hb]
  · rw [nI_pred, e]; exact sp_38 hn
/-- the reference's pile holds these at an hour -/
def RKm (f : Nat → Int32) (st : List (Nat → Bool)) (h : Nat) : Prop := ∀ i F, st[i]? = some F → f (st.length - 1 - i) = b01 (F h)
theorem RKm.push {f g : Nat → Int32} {st : List (Nat → Bool)} {F : Nat → Bool} {h : Nat} (k : RKm f st h) (hg : ∀ i, i < st.length → g i = f i) (hv : g st.length = b01 (F h)) : RKm g (F :: st) h := by
  intro i G hG
  cases i with
  | zero =>
    cases hG
    rw [List.length_cons, show st.length + 1 - 1 - 0 = st.length by omega]
    exact hv
  | succ i =>
    rw [List.getElem?_cons_succ] at hG
    have := at_lt hG
    rw [List.length_cons, show st.length + 1 - 1 - (i + 1) = st.length - 1 - i by omega, hg _ (by omega)]
    exact k i G hG
theorem RKm.tl {f : Nat → Int32} {st : List (Nat → Bool)} {F : Nat → Bool} {h : Nat} (k : RKm f (F :: st) h) : RKm f st h := by
  intro i G hG
  have := at_lt hG
  have := k (i + 1) G (by rw [List.getElem?_cons_succ]; exact hG)
  rwa [List.length_cons, show st.length + 1 - 1 - (i + 1) = st.length - 1 - i by omega] at this
theorem RKm.hd {f : Nat → Int32} {st : List (Nat → Bool)} {F : Nat → Bool} {h : Nat} (k : RKm f (F :: st) h) : f st.length = b01 (F h) := by
  have := k 0 F rfl
  rwa [List.length_cons, show st.length + 1 - 1 - 0 = st.length by omega] at this
/-- code at a place of the rows 16 and 17 -/
def CodeAt (M : MS) (ix : Nat) (l : List (Nat × Nat)) : Prop := ix + l.length ≤ 14400 ∧ ∀ (i : Nat) (x : Nat × Nat), l[i]? = some x → M.2.2 16 (ix + i) = nI x.1 ∧ M.2.2 17 (ix + i) = nI x.2
theorem CodeAt.tl {ix : Nat} {x : Nat × Nat} {l : List (Nat × Nat)} (h : CodeAt M ix (x :: l)) : CodeAt M (ix + 1) l := by
  refine ⟨by have := h.1; rw [List.length_cons] at this; omega, fun i y hy => ?_⟩
  have := h.2 (i + 1) y (by rw [List.getElem?_cons_succ]; exact hy)
  rwa [show ix + 1 + i = ix + (i + 1) by omega]
theorem CodeAt.hd {ix : Nat} {x : Nat × Nat} {l : List (Nat × Nat)} (h : CodeAt M ix (x :: l)) : ix < 14400 ∧ M.2.2 16 ix = nI x.1 ∧ M.2.2 17 ix = nI x.2 := by
  refine ⟨by have := h.1; rw [List.length_cons] at this; omega, ?_⟩
  have := h.2 0 x rfl
  rwa [Nat.add_zero] at this
theorem m_step (N : Nat) (hN : 9 ≤ N) {e : EV} {h : Nat} (hh : h < 24) (me : MEv M e) (w : WEv e) {f : Nat → Int32} {st : List (Nat → Bool)} {x : Nat × Nat × Nat} {l : List (Nat × Nat × Nat)} {r : Nat} {rest : List (Nat × Nat)} (m ix : Nat) (h1 : x.1 < 7) (h2 : x.2.1 < 1005) (h3 : x.2.2 < 1005) (hs : stkS (x :: l) st.length = some r) (hl : st.length ≤ 13) (hk : RKm f st h) (hc : CodeAt M ix (expS x ++ rest)) :
    ∃ f', l_X11_tested_12 N (m + (expS x).length) (hp X C (mT M f) T) (some 35) (nI (e_p e)) (nI (e_t e)) (nI h) (nI st.length) (nI ix) = l_X11_tested_12 N m (hp X C (mT M f') T) (some 35) (nI (e_p e)) (nI (e_t e)) (nI h) (nI (stF e x st).length) (nI (ix + (expS x).length)) ∧ RKm f' (stF e x st) h ∧ CodeAt M (ix + (expS x).length) rest := by
  unfold stkS at hs
  by_cases q3 : x.1 < 3
  · have ex : expS x = [tmS x.2.1, tmS x.2.2, (opS x.1, 0)] := if_pos q3
    rw [ex] at hc ⊢
    have hst : stF e x st = (fun h => cmpS x.1 (vS e h x.2.1) (vS e h x.2.2)) :: st := if_pos q3
    rw [hst]
    have c1 := hc.hd
    have c2 := hc.tl.hd
    have c3 := hc.tl.tl.hd
    have c4 : CodeAt M (ix + 1 + 1 + 1) rest := hc.tl.tl.tl
    have t1 := m_term (X := X) (C := C) (T := T) N hN (h := h) me w (m + 2) st.length ix (f := f) h2 (by omega) c1.1 c1.2.1 c1.2.2
    have t2 := m_term (X := X) (C := C) (T := T) N hN (h := h) me w (m + 1) (st.length + 1) (ix + 1) (f := upd f st.length (nI (vS e h x.2.1))) h3 (by omega) c2.1 c2.2.1 c2.2.2
    have v1 := vS_lt w hh h2
    have v2 := vS_lt w hh h3
    have t3 := m_two (X := X) (C := C) (M := M) (T := T) N m st.length (ix + 1 + 1) (opS x.1) (f := upd (upd f st.length (nI (vS e h x.2.1))) (st.length + 1) (nI (vS e h x.2.2))) (v3 := nI (e_p e)) (v4 := nI (e_t e)) (v5 := nI h) (cmpS x.1 (vS e h x.2.1) (vS e h x.2.2)) (by omega) c3.1 c3.2.1 (by
      have u1 : upd (upd f st.length (nI (vS e h x.2.1))) (st.length + 1) (nI (vS e h x.2.2)) st.length = nI (vS e h x.2.1) := by rw [pk_un (by omega), pk_us]
      have u2 : upd (upd f st.length (nI (vS e h x.2.1))) (st.length + 1) (nI (vS e h x.2.2)) (st.length + 1) = nI (vS e h x.2.2) := pk_us
      rcases (show x.1 = 0 ∨ x.1 = 1 ∨ x.1 = 2 by omega) with q | q | q <;> rw [q]
      · exact Or.inl ⟨rfl, _, _, by omega, by omega, u1, u2, rfl⟩
      · exact Or.inr (Or.inr (Or.inl ⟨rfl, _, _, by omega, by omega, u1, u2, rfl⟩))
      · exact Or.inr (Or.inl ⟨rfl, _, _, by omega, by omega, u1, u2, rfl⟩))
    refine ⟨_, (t1.trans (t2.trans t3)), hk.push (fun i hi => ?_) ?_, c4⟩
    · rw [pk_un (by omega), pk_un (by omega), pk_un (by omega)]
    · rw [pk_us]
  · have ex : expS x = [(opS x.1, 0)] := if_neg q3
    rw [ex] at hc ⊢
    have c1 := hc.hd
    have c4 : CodeAt M (ix + 1) rest := hc.tl
    by_cases q : x.1 = 3
    · have hst : stF e x st = (fun _ => e_o e) :: st := by unfold stF; rw [if_neg q3, if_pos q]
      rw [hst]
      rw [q] at c1
      refine ⟨_, m_own (X := X) (C := C) (T := T) N (h := h) me w m st.length ix (by omega) c1.1 c1.2.1, hk.push (fun i hi => ?_) ?_, c4⟩
      · rw [pk_un (by omega)]
      · rw [pk_us]
    · rw [if_neg (by omega)] at hs
      by_cases q4 : x.1 = 4
      · rw [if_pos q4] at hs
        obtain ⟨hs1, hs2⟩ := ifN hs
        cases st with
        | nil => exact absurd hs1 (by simp)
        | cons a st =>
          have hst : stF e x (a :: st) = (fun h => !(a h)) :: st := by unfold stF; rw [if_neg q3, if_neg q, if_pos q4]
          rw [hst]
          rw [List.length_cons] at hl
          rw [q4] at c1
          refine ⟨_, m_not (X := X) (C := C) (M := M) (T := T) N m st.length ix (a h) (by omega) c1.1 c1.2.1 hk.hd, hk.tl.push (fun i hi => ?_) ?_, c4⟩
          · rw [pk_un (by omega)]
          · rw [pk_us]
      · rw [if_neg q4] at hs
        obtain ⟨hs1, hs2⟩ := ifN hs
        match st, hs1, hl, hk with
        | a :: b :: st, hs1, hl, hk =>
          have hst : stF e x (a :: b :: st) = (fun h => if x.1 = 5 then (a h && b h) else (a h || b h)) :: st := by unfold stF; rw [if_neg q3, if_neg q, if_neg q4]
          rw [hst]
          simp only [List.length_cons] at hl
          have ha := hk.hd
          rw [List.length_cons] at ha
          have hb := hk.tl.hd
          refine ⟨_, m_two (X := X) (C := C) (M := M) (T := T) N m st.length ix (opS x.1) (f := f) (if x.1 = 5 then (a h && b h) else (a h || b h)) (by omega) c1.1 c1.2.1 ?_, hk.tl.tl.push (fun i hi => ?_) ?_, c4⟩
          · rcases (show x.1 = 5 ∨ x.1 = 6 by omega) with q5 | q5 <;> rw [q5]
            · exact Or.inr (Or.inr (Or.inr (Or.inl ⟨rfl, _, _, hb, ha, by rw [if_pos rfl, Bool.and_comm]⟩)))
            · exact Or.inr (Or.inr (Or.inr (Or.inr ⟨rfl, _, _, hb, ha, by rw [if_neg (by decide), Bool.or_comm]⟩)))
          · rw [pk_un (by omega)]
          · rw [pk_us]
        | [a], hs1, _, _ => exact absurd hs1 (by simp)
        | [], hs1, _, _ => exact absurd hs1 (by simp)
theorem stk_next {e : EV} {st : List (Nat → Bool)} {x : Nat × Nat × Nat} {l : List (Nat × Nat × Nat)} {r : Nat} (h1 : x.1 < 7) (hs : stkS (x :: l) st.length = some r) (hl : st.length ≤ 13) : stkS l (stF e x st).length = some r ∧ (stF e x st).length ≤ 13 := by
  unfold stkS at hs
  by_cases q3 : x.1 < 3
  · rw [if_pos (by omega)] at hs
    have hst : stF e x st = (fun h => cmpS x.1 (vS e h x.2.1) (vS e h x.2.2)) :: st := if_pos q3
    rw [hst]
    obtain ⟨hs1, hs2⟩ := ifN hs
    exact ⟨hs2, by rw [List.length_cons]; omega⟩
  · by_cases q : x.1 = 3
    · rw [if_pos (by omega)] at hs
      have hst : stF e x st = (fun _ => e_o e) :: st := by unfold stF; rw [if_neg q3, if_pos q]
      rw [hst]
      obtain ⟨hs1, hs2⟩ := ifN hs
      exact ⟨hs2, by rw [List.length_cons]; omega⟩
    · rw [if_neg (by omega)] at hs
      by_cases q4 : x.1 = 4
      · rw [if_pos q4] at hs
        obtain ⟨hs1, hs2⟩ := ifN hs
        cases st with
        | nil => exact absurd hs1 (by simp)
        | cons a st =>
          have hst : stF e x (a :: st) = (fun h => !(a h)) :: st := by unfold stF; rw [if_neg q3, if_neg q, if_pos q4]
          rw [hst]
          exact ⟨hs2, hl⟩
      · rw [if_neg q4] at hs
        obtain ⟨hs1, hs2⟩ := ifN hs
        match st, hs1, hs2, hl with
        | a :: b :: st, hs1, hs2, hl =>
          have hst : stF e x (a :: b :: st) = (fun h => if x.1 = 5 then (a h && b h) else (a h || b h)) :: st := by unfold stF; rw [if_neg q3, if_neg q, if_neg q4]
          rw [hst]
          simp only [List.length_cons] at hl hs2 ⊢
          exact ⟨hs2, by omega⟩
        | [a], hs1, _, _ => exact absurd hs1 (by simp)
        | [], hs1, _, _ => exact absurd hs1 (by simp)
theorem m_testL (N : Nat) (hN : 9 ≤ N) {e : EV} {h : Nat} (hh : h < 24) (me : MEv M e) (w : WEv e) :
    ∀ (l : List (Nat × Nat × Nat)) (ix m : Nat) (f : Nat → Int32) (st : List (Nat → Bool)), (∀ x ∈ l, x.1 < 7 ∧ x.2.1 < 1005 ∧ x.2.2 < 1005) → CodeAt M ix (mcode l) → (mcode l).length ≤ m → st.length ≤ 13 → stkS l st.length = some 1 → RKm f st h →
    ∃ F f', evF e l st = [F] ∧ l_X11_tested_12 N m (hp X C (mT M f) T) (some 35) (nI (e_p e)) (nI (e_t e)) (nI h) (nI st.length) (nI ix) = some (b01 (F h), hp X C (mT M f') T) := by
  intro l
  induction l with
  | nil =>
    intro ix m f st _ hc hm h4 h5 h6
    have hm' : 1 ≤ m := hm
    obtain ⟨m, rfl⟩ : ∃ k, m = k + 1 := ⟨m - 1, by omega⟩
    have h7 : st.length = 1 := Option.some.inj h5
    match st, h7, h6 with
    | [F], h7, h6 =>
      have c1 := (show CodeAt M ix ((13, 0) :: []) from hc).hd
      have c16 : M.2.2 16 ix = 13 := c1.2.1
      have hf : f 0 = b01 (F h) := h6.hd
      refine ⟨F, f, rfl, te_13 N m gr_35_16 (by rw [ai_50 c1.1, mT_n (by decide), c16]) gr_35_38 (F h) ?_⟩
      rw [← hf, ← nI_0]; exact ap_38 (by omega)
  | cons x l ih =>
    intro ix m f st hw hc hm h4 h5 h6
    have em : mcode (x :: l) = expS x ++ mcode l := by unfold mcode; rw [List.flatMap_cons, List.append_assoc]
    rw [em] at hc hm
    rw [List.length_append] at hm
    obtain ⟨x1, x2, x3⟩ := hw x List.mem_cons_self
    obtain ⟨f', g1, g2, g3⟩ := m_step (X := X) (C := C) (T := T) N hN hh me w (m - (expS x).length) ix x1 x2 x3 h5 h4 h6 hc
    obtain ⟨s1, s2⟩ := stk_next (e := e) x1 h5 h4
    obtain ⟨F, f'', g4, g5⟩ := ih (ix + (expS x).length) (m - (expS x).length) f' (stF e x st) (fun y hy => hw y (List.mem_cons_of_mem _ hy)) g3 (by omega) s2 s1 g2
    refine ⟨F, f'', g4, ?_⟩
    rw [show m - (expS x).length + (expS x).length = m by omega] at g1
    exact g1.trans g5
end MHL
