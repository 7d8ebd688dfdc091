/-! what COULD BE ASKED: cases of all hours -/
section CA
variable {A A1 A2 A3 : LH} {q r qo qt p : Option Nat} {i n x v w o l : Int32}
theorem hl_end (N m : Nat) (h1 : gR A r 3 2 = some qo) (h2 : ln6 A qo = some n) (h3 : n ≤ i) : l_X9_hoursLet_8 N (m + 1) A q r o l i = some (l, A) := by
  show b_X9_hoursLet_8 N _ A q r o l i = _
  unfold b_X9_hoursLet_8
  (repeat (first | with_reducible rfl | refine (bnd_eq (by first | with_reducible assumption)).trans ?_ | refine (if_pos (by first | with_reducible assumption | with_reducible rfl | decide | (dsimp only; first | with_reducible assumption | with_reducible rfl | decide))).trans ?_ | refine (if_neg (by first | with_reducible assumption | decide | (dsimp only; first | with_reducible assumption | decide))).trans ?_))
theorem hl_0 (N m : Nat) (h1 : gR A r 3 2 = some qo) (h2 : ln6 A qo = some n) (h3 : ¬ n ≤ i) (h4 : o = 0) : l_X9_hoursLet_8 N (m + 1) A q r o l i = some (l, A) := by
  show b_X9_hoursLet_8 N _ A q r o l i = _
  unfold b_X9_hoursLet_8
  (repeat (first | with_reducible rfl | refine (bnd_eq (by first | with_reducible assumption)).trans ?_ | refine (if_pos (by first | with_reducible assumption | with_reducible rfl | decide | (dsimp only; first | with_reducible assumption | with_reducible rfl | decide))).trans ?_ | refine (if_neg (by first | with_reducible assumption | decide | (dsimp only; first | with_reducible assumption | decide))).trans ?_))
theorem hl_st (N m : Nat) {pp : Nat} (h1 : gR A r 3 2 = some qo) (h2 : ln6 A qo = some n) (h3 : ¬ n ≤ i) (h4 : ¬ o = 0) (h5 : aI A qo 0 i = some x) (h6 : f_X3_lineAt A r x = some (some pp)) (h7 : f_X9_hoursHeld N A q (some pp) = some (v, A1)) (b : Bool) (h8 : gI A1 (some pp) 0 0 = some (b01 b)) : l_X9_hoursLet_8 N (m + 1) A q r o l i = l_X9_hoursLet_8 N m A1 q r (o &&& (v ^^^ (-1))) (cond b (l ||| (o &&& v)) l) (i + 1) := by
  have hne : ¬ some pp = none := fun z => nomatch z
  show b_X9_hoursLet_8 N _ A q r o l i = _
  unfold b_X9_hoursLet_8
  cases b with
  | true =>
    have h8' : gI A1 (some pp) 0 0 = some 1 := h8
    show _ = l_X9_hoursLet_8 N m A1 q r (o &&& (v ^^^ (-1))) (l ||| (o &&& v)) (i + 1)
    (repeat (first | with_reducible rfl | refine (bnd_eq (by first | with_reducible assumption)).trans ?_ | refine (if_pos (by first | with_reducible assumption | with_reducible rfl | decide | (dsimp only; first | with_reducible assumption | with_reducible rfl | decide))).trans ?_ | refine (if_neg (by first | with_reducible assumption | decide | (dsimp only; first | with_reducible assumption | decide))).trans ?_ | unfold b_X9_hoursLet_63))
  | false =>
    have h8' : gI A1 (some pp) 0 0 = some 0 := h8
    show _ = l_X9_hoursLet_8 N m A1 q r (o &&& (v ^^^ (-1))) l (i + 1)
    (repeat (first | with_reducible rfl | refine (bnd_eq (by first | with_reducible assumption)).trans ?_ | refine (if_pos (by first | with_reducible assumption | with_reducible rfl | decide | (dsimp only; first | with_reducible assumption | with_reducible rfl | decide))).trans ?_ | refine (if_neg (by first | with_reducible assumption | decide | (dsimp only; first | with_reducible assumption | decide))).trans ?_ | unfold b_X9_hoursLet_63))
theorem hd_end (N m : Nat) (h1 : gR A r 3 2 = some qo) (h2 : ln6 A qo = some n) (h3 : n ≤ i) : l_X9_hoursDecided_6 N (m + 1) A q r w o i = some (0, A) := by
  show b_X9_hoursDecided_6 N _ A q r w o i = _
  unfold b_X9_hoursDecided_6
  (repeat (first | with_reducible rfl | refine (bnd_eq (by first | with_reducible assumption)).trans ?_ | refine (if_pos (by first | with_reducible assumption | with_reducible rfl | decide | (dsimp only; first | with_reducible assumption | with_reducible rfl | decide))).trans ?_ | refine (if_neg (by first | with_reducible assumption | decide | (dsimp only; first | with_reducible assumption | decide))).trans ?_))
theorem hd_0 (N m : Nat) (h1 : gR A r 3 2 = some qo) (h2 : ln6 A qo = some n) (h3 : ¬ n ≤ i) (h4 : o = 0) : l_X9_hoursDecided_6 N (m + 1) A q r w o i = some (0, A) := by
  show b_X9_hoursDecided_6 N _ A q r w o i = _
  unfold b_X9_hoursDecided_6
  (repeat (first | with_reducible rfl | refine (bnd_eq (by first | with_reducible assumption)).trans ?_ | refine (if_pos (by first | with_reducible assumption | with_reducible rfl | decide | (dsimp only; first | with_reducible assumption | with_reducible rfl | decide))).trans ?_ | refine (if_neg (by first | with_reducible assumption | decide | (dsimp only; first | with_reducible assumption | decide))).trans ?_))
theorem hd_eq (N m : Nat) (h1 : gR A r 3 2 = some qo) (h2 : ln6 A qo = some n) (h3 : ¬ n ≤ i) (h4 : ¬ o = 0) (h5 : aI A qo 0 i = some x) (h6 : f_X3_lineAt A r x = some p) (h7 : f_X9_hoursHeld N A q p = some (v, A1)) (h8 : gR A1 r 3 2 = some qo) (h9 : aI A1 qo 0 i = some x) (h10 : x = w) : l_X9_hoursDecided_6 N (m + 1) A q r w o i = some (o &&& v, A1) := by
  show b_X9_hoursDecided_6 N _ A q r w o i = _
  unfold b_X9_hoursDecided_6
  (repeat (first | with_reducible rfl | refine (bnd_eq (by first | with_reducible assumption)).trans ?_ | refine (if_pos (by first | with_reducible assumption | with_reducible rfl | decide | (dsimp only; first | with_reducible assumption | with_reducible rfl | decide))).trans ?_ | refine (if_neg (by first | with_reducible assumption | decide | (dsimp only; first | with_reducible assumption | decide))).trans ?_))
theorem hd_ne (N m : Nat) (h1 : gR A r 3 2 = some qo) (h2 : ln6 A qo = some n) (h3 : ¬ n ≤ i) (h4 : ¬ o = 0) (h5 : aI A qo 0 i = some x) (h6 : f_X3_lineAt A r x = some p) (h7 : f_X9_hoursHeld N A q p = some (v, A1)) (h8 : gR A1 r 3 2 = some qo) (h9 : aI A1 qo 0 i = some x) (h10 : ¬ x = w) : l_X9_hoursDecided_6 N (m + 1) A q r w o i = l_X9_hoursDecided_6 N m A1 q r w (o &&& (v ^^^ (-1))) (i + 1) := by
  show b_X9_hoursDecided_6 N _ A q r w o i = _
  unfold b_X9_hoursDecided_6
  (repeat (first | with_reducible rfl | refine (bnd_eq (by first | with_reducible assumption)).trans ?_ | refine (if_pos (by first | with_reducible assumption | with_reducible rfl | decide | (dsimp only; first | with_reducible assumption | with_reducible rfl | decide))).trans ?_ | refine (if_neg (by first | with_reducible assumption | decide | (dsimp only; first | with_reducible assumption | decide))).trans ?_))
theorem sc_ab {v2 x3 : Int32} {q1 : Option Nat} (h0 : isO A q 9 = true) (h1 : gR A r 8 1 = some q1) (h2 : gI A q1 5 3 = some x3) (h3 : ¬ x3 ≤ 0) (h4 : ¬ x3 = 0) (h5 : f_X9_stand A q r ((v2 / x3) / 4) ((v2 / x3) - (v2 / x3) / 4 * 4) (v2 - v2 / x3 * x3) 0 = some A1) : f_X9_standAtCase A q r v2 = some A1 := by
  unfold f_X9_standAtCase b_X9_standAtCase
  (repeat (first | with_reducible rfl | refine (bnd_eq (by first | with_reducible assumption)).trans ?_ | refine (if_pos (by first | with_reducible assumption | with_reducible rfl | decide | (dsimp only; first | with_reducible assumption | with_reducible rfl | decide))).trans ?_ | refine (if_neg (by first | with_reducible assumption | decide | (dsimp only; first | with_reducible assumption | decide))).trans ?_))
theorem po_0 {q6 : Option Nat} {v1 : Int32} (h0 : isO A q 11 = true) (h1 : gR A q 11 6 = some q6) (h2 : aI A q6 0 0 = some n) (h3 : ¬ 96 * n = 0) : f_X11_partOf A q v1 0 = some (v1 / (96 * n)) := by
  unfold f_X11_partOf b_X11_partOf
  (repeat (first | with_reducible rfl | refine (bnd_eq (by first | with_reducible assumption)).trans ?_ | refine (if_pos (by first | with_reducible assumption | with_reducible rfl | decide | (dsimp only; first | with_reducible assumption | with_reducible rfl | decide))).trans ?_ | refine (if_neg (by first | with_reducible assumption | decide | (dsimp only; first | with_reducible assumption | decide))).trans ?_))
theorem po_1 {q6 : Option Nat} {v1 : Int32} (h0 : isO A q 11 = true) (h1 : gR A q 11 6 = some q6) (h2 : aI A q6 0 0 = some n) (h3 : ¬ 24 * n = 0) : f_X11_partOf A q v1 1 = some ((v1 / (24 * n)) - (v1 / (24 * n)) / 4 * 4) := by
  unfold f_X11_partOf b_X11_partOf
  (repeat (first | with_reducible rfl | refine (bnd_eq (by first | with_reducible assumption)).trans ?_ | refine (if_pos (by first | with_reducible assumption | with_reducible rfl | decide | (dsimp only; first | with_reducible assumption | with_reducible rfl | decide))).trans ?_ | refine (if_neg (by first | with_reducible assumption | decide | (dsimp only; first | with_reducible assumption | decide))).trans ?_))
theorem po_2 {q6 : Option Nat} {v1 : Int32} (h0 : isO A q 11 = true) (h1 : gR A q 11 6 = some q6) (h2 : aI A q6 0 0 = some n) (h3 : ¬ n = 0) : f_X11_partOf A q v1 2 = some ((v1 / 24) - (v1 / 24) / n * n) := by
  unfold f_X11_partOf b_X11_partOf
  (repeat (first | with_reducible rfl | refine (bnd_eq (by first | with_reducible assumption)).trans ?_ | refine (if_pos (by first | with_reducible assumption | with_reducible rfl | decide | (dsimp only; first | with_reducible assumption | with_reducible rfl | decide))).trans ?_ | refine (if_neg (by first | with_reducible assumption | decide | (dsimp only; first | with_reducible assumption | decide))).trans ?_))
theorem po_3 {v1 : Int32} (h0 : isO A q 11 = true) : f_X11_partOf A q v1 3 = some (v1 - v1 / 24 * 24) := by
  unfold f_X11_partOf b_X11_partOf
  (repeat (first | with_reducible rfl | refine (bnd_eq (by first | with_reducible assumption)).trans ?_ | refine (if_pos (by first | with_reducible assumption | with_reducible rfl | decide | (dsimp only; first | with_reducible assumption | with_reducible rfl | decide))).trans ?_ | refine (if_neg (by first | with_reducible assumption | decide | (dsimp only; first | with_reducible assumption | decide))).trans ?_))
theorem ia_ab (N : Nat) {v1 v2 x0 x1 x2 x3 : Int32} (h0 : isO A q 11 = true) (h1 : f_X11_partOf A q v2 0 = some x0) (h2 : f_X11_partOf A q v2 1 = some x1) (h3 : f_X11_partOf A q v2 2 = some x2) (h4 : f_X11_partOf A q v2 3 = some x3) (b : Bool) (h5 : f_X11_isLet N A q v1 x0 x1 x2 x3 = some (b01 b, A1)) : f_X11_isAllLet N A q v1 v2 = some (b01 b, A1) := by
  unfold f_X11_isAllLet
  rw [if_pos h0, show b_X11_isAllLet N A q v1 v2 = some (b01 b, A1) by unfold b_X11_isAllLet; (repeat (first | with_reducible rfl | refine (bnd_eq (by first | with_reducible assumption)).trans ?_ | refine (if_pos (by first | with_reducible assumption | with_reducible rfl | decide | (dsimp only; first | with_reducible assumption | with_reducible rfl | decide))).trans ?_ | refine (if_neg (by first | with_reducible assumption | decide | (dsimp only; first | with_reducible assumption | decide))).trans ?_))]
  exact zc_b b A1
theorem ma_all {q3 q6 : Option Nat} (h0 : isO A q 11 = true) (h1 : gR A q 11 3 = some q3) (h2 : aI A q3 0 0 = some x) (h3 : gR A q 11 6 = some q6) (h4 : aI A q6 0 0 = some n) : f_X11_all A q = some (((x * 4) * n) * 24) := by
  unfold f_X11_all b_X11_all
  (repeat (first | with_reducible rfl | refine (bnd_eq (by first | with_reducible assumption)).trans ?_ | refine (if_pos (by first | with_reducible assumption | with_reducible rfl | decide | (dsimp only; first | with_reducible assumption | with_reducible rfl | decide))).trans ?_ | refine (if_neg (by first | with_reducible assumption | decide | (dsimp only; first | with_reducible assumption | decide))).trans ?_))
theorem ka_cases {q3 q6 : Option Nat} (h0 : isO A q 8 = true) (h1 : gR A q 8 0 = some q3) (h2 : gI A q3 5 3 = some x) (h3 : gR A q 8 1 = some q6) (h4 : gI A q6 5 3 = some n) : f_X8_cases A q = some ((x * 4) * n) := by
  unfold f_X8_cases b_X8_cases
  (repeat (first | with_reducible rfl | refine (bnd_eq (by first | with_reducible assumption)).trans ?_ | refine (if_pos (by first | with_reducible assumption | with_reducible rfl | decide | (dsimp only; first | with_reducible assumption | with_reducible rfl | decide))).trans ?_ | refine (if_neg (by first | with_reducible assumption | decide | (dsimp only; first | with_reducible assumption | decide))).trans ?_))
end CA
section CAS
variable {X : XS} {C : CS} {M : MS} {T : TS} {S : SG} {K : Nat} {mu : List Nat}
def letF (e : EV) (ls : List LNV) (l : List Nat) (j : Nat) : Bool := match l.find? (hB e j ls) with
  | none => false
  | some k => letB ls k
theorem rl_qo {q : Nat} {r : RSV} (hr : isRl mu T q r) : ∃ qo, ∀ C : CS, gR (hp X C M T) (some q) 3 2 = some (some qo) ∧ ln6 (hp X C M T) (some qo) = some (nI r.2.length) ∧ ∀ (i k : Nat), (ordR r)[i]? = some k → i < r.2.length → r.2.length < 2 ^ 31 → aI (hp X C M T) (some qo) 0 (nI i) = some (nI k) := by
  obtain ⟨h0, ql, qo, fl, fo, h1, h2, h3, h4, h5, h6, h7⟩ := hr
  refine ⟨qo, fun C => ⟨gR_at (h0.gc.trans h3) rfl, ln6_at (h2.gc.trans h5) (by decide), fun i k hk hi hb => ?_⟩⟩
  rw [aI_at (h2.gc.trans h5) hi hb, h7 i k hk]
theorem drop_hd {l : List Nat} {r : List Nat} {k i : Nat} (h : r.drop i = k :: l) : r[i]? = some k ∧ r.drop (i + 1) = l := by
  constructor
  · have := congrArg (fun z => z[0]?) h
    simp only [List.getElem?_drop, Nat.add_zero, List.getElem?_cons_zero] at this
    exact this
  · have := congrArg (fun z => z.drop 1) h
    simpa [List.drop_drop, Nat.add_comm] using this
theorem k_hletL (N : Nat) (hN : 601 ≤ N) {e : EV} {h q : Nat} {r : RSV} (s : St C e h) (w : WEv e) (wr : WRs r) (hr : isRl mu T q r) :
    ∀ (l : List Nat) (m i : Nat) (f : Nat → Int32) (v o lt : Int32), (ordR r).drop i = l → i + l.length = r.2.length → l.length < m → (∀ j, 24 ≤ j → j < 32 → bt o j = false) →
    ∃ f' v' u, l_X9_hoursLet_8 N m (hp X (kT C f v) M T) (some 30) (some q) o lt (nI i) = some (u, hp X (kT C f' v') M T) ∧ ∀ j, j < 32 → bt u j = (bt lt j || (bt o j && letF e r.2 l j)) := by
  obtain ⟨w1, w2, w3⟩ := wr
  obtain ⟨qo, hqo⟩ := rl_qo (X := X) (M := M) hr
  intro l
  induction l with
  | nil =>
    intro m i f v o lt h1 h0 h2 ho
    obtain ⟨m, rfl⟩ : ∃ k, m = k + 1 := ⟨m - 1, by omega⟩
    rw [List.length_nil] at h0
    refine ⟨f, v, lt, hl_end N m (hqo _).1 (hqo _).2.1 (nI_le (by omega) (by omega)), fun j hj => ?_⟩
    show _ = (bt lt j || (bt o j && false))
    rw [Bool.and_false, Bool.or_false]
  | cons k l ih =>
    intro m i f v o lt h1 h0 h2 ho
    obtain ⟨m, rfl⟩ : ∃ k, m = k + 1 := ⟨m - 1, by omega⟩
    rw [List.length_cons] at h0 h2
    obtain ⟨hoi, hd⟩ := drop_hd h1
    have hlt : ¬ nI r.2.length ≤ nI i := nI_ge (by omega) (by omega)
    by_cases o0 : o = 0
    · refine ⟨f, v, lt, hl_0 N m (hqo _).1 (hqo _).2.1 hlt o0, fun j hj => ?_⟩
      rw [o0, b_0, Bool.false_and, Bool.or_false]
    · have hk : k < r.2.length := ordR_mem (how := r.1) (List.mem_of_getElem? hoi)
      obtain ⟨ln, hln⟩ := at_ex r.2 hk
      obtain ⟨p, p1, p2⟩ := rl_at (X := X) (C := kT C f v) (M := M) hr hln (by omega)
      have wl := w3 ln (List.mem_of_getElem? hln)
      obtain ⟨b, f1, v1, b1, b2⟩ := k_held (X := X) (M := M) (C := kT C f v) N hN (s.kT (f := f) (v := v)) w wl p2
      rw [kT_kT] at b1
      have hB' : ∀ j, hB e j r.2 k = hldB e j ln := fun j => by unfold hB; rw [hln]
      have lb : letB r.2 k = (ln.1 == 1) := by unfold letB; rw [hln]
      obtain ⟨-, g0, -⟩ := ln_all (X := X) (C := kT C f1 v1) (M := M) p2
      have g0' : gI (hp X (kT C f1 v1) M T) (some p) 0 0 = some (b01 (letB r.2 k)) := by
        rw [g0, lb]
        have := wl.1
        rcases (show ln.1 = 0 ∨ ln.1 = 1 by omega) with z | z <;> rw [z] <;> rfl
      obtain ⟨f', v', u, u1, u2⟩ := ih m (i + 1) f1 v1 (o &&& (b ^^^ (-1))) (cond (letB r.2 k) (lt ||| (o &&& b)) lt) hd (by omega) (by omega) (fun j h24 h32 => by rw [b_and, ho j h24 h32, Bool.false_and])
      refine ⟨f', v', u, ?_, fun j hj => ?_⟩
      · rw [hl_st N m (hqo _).1 (hqo _).2.1 hlt o0 ((hqo _).2.2 i k hoi (by omega) (by omega)) p1 b1 (letB r.2 k) g0', nI_1]
        exact u1
      · rw [u2 j hj, b_and, bt_not _ hj, b2 j hj]
        have e1 : bt (cond (letB r.2 k) (lt ||| (o &&& b)) lt) j = (bt lt j || (letB r.2 k && (bt o j && bt b j))) := by
          cases letB r.2 k
          · simp
          · simp [b_or, b_and]
        rw [e1, b2 j hj]
        have e2 : letF e r.2 (k :: l) j = if hldB e j ln = true then letB r.2 k else letF e r.2 l j := by
          unfold letF
          rw [List.find?_cons, hB' j]
          cases hldB e j ln <;> rfl
        rw [e2]
        by_cases q24 : j < 24
        · cases hldB e j ln <;> cases bt o j <;> cases letB r.2 k <;> cases bt lt j <;> simp [q24]
        · rw [ho j (by omega) hj]; simp
theorem letF_ord {e : EV} {r : RSV} (wr : WRs r) (j : Nat) : letF e r.2 (ordR r) j = letR e j r := by
  unfold letF letR letP
  rw [decP_ord (how := r.1) (ls := r.2) wr.1 (fun l hl => (wr.2.2 l hl).1)]
  cases decP r.1 r.2.length (hB e j r.2) (letB r.2) <;> rfl
/-- the hours at which a case is let -/
theorem k_hlet (N : Nat) (hN : 601 ≤ N) {e : EV} {h q : Nat} {r : RSV} (s : St C e h) (w : WEv e) (wr : WRs r) (hr : isRl mu T q r) : ∃ f v u, f_X9_hoursLet N (hp X C M T) (some 30) (some q) = some (u, hp X (kT C f v) M T) ∧ ∀ j, j < 32 → bt u j = (decide (j < 24) && letR e j r) := by
  have hol : (ordR r).length = r.2.length := ordR_len (how := r.1) fun l hl => (wr.2.2 l hl).1
  have := wr.2.1
  obtain ⟨f, v, u, u1, u2⟩ := k_hletL (X := X) (M := M) N hN s w wr hr (ordR r) N 0 (C.2.1 5) (C.1 12) 16777215 0 rfl (by omega) (by omega) (fun j h1 h2 => by rw [bt_alh j h2]; simp; omega)
  rw [kT_id, nI_0] at u1
  refine ⟨f, v, u, ?_, fun j hj => ?_⟩
  · unfold f_X9_hoursLet b_X9_hoursLet
    rw [io_30, if_pos rfl]
    exact u1
  · rw [u2 j hj, b_0, bt_alh j hj, Bool.false_or, letF_ord wr]
theorem ordR_nd {how : Nat} {ls : List LNV} : (ordR (how, ls)).Nodup := by
  have hd : ∀ a b, a ≠ b → (ordL ls a ++ ordL ls b).Nodup := fun a b hab => by
    rw [List.nodup_append]
    refine ⟨List.Pairwise.sublist List.filter_sublist List.nodup_range, List.Pairwise.sublist List.filter_sublist List.nodup_range, fun x hx y hy hxy => ?_⟩
    subst hxy
    rw [ordL_l] at hx hy
    have h1 := (List.mem_filter.mp hx).2
    have h2 := (List.mem_filter.mp hy).2
    unfold lnB at h1 h2
    cases hq : ls[x]? with
    | none => rw [hq] at h1; cases h1
    | some l =>
      rw [hq] at h1 h2
      simp at h1 h2
      omega
  unfold ordR
  split
  · exact List.nodup_range
  · split
    · exact List.pairwise_reverse.mpr (List.Pairwise.imp (fun h => h.symm) List.nodup_range)
    · split
      · exact hd 0 1 (by decide)
      · exact hd 1 0 (by decide)
theorem k_hdecL (N : Nat) (hN : 601 ≤ N) {e : EV} {h q k0 : Nat} {r : RSV} (hk0 : k0 < 12) (s : St C e h) (w : WEv e) (wr : WRs r) (hr : isRl mu T q r) :
    ∀ (l : List Nat) (m i : Nat) (f : Nat → Int32) (v o : Int32), (ordR r).drop i = l → i + l.length = r.2.length → l.length < m → l.Nodup → (∀ j, 24 ≤ j → j < 32 → bt o j = false) →
    ∃ f' v' u, l_X9_hoursDecided_6 N m (hp X (kT C f v) M T) (some 30) (some q) (nI k0) o (nI i) = some (u, hp X (kT C f' v') M T) ∧ ∀ j, j < 32 → bt u j = (bt o j && (l.find? (hB e j r.2) == some k0)) := by
  obtain ⟨w1, w2, w3⟩ := wr
  obtain ⟨qo, hqo⟩ := rl_qo (X := X) (M := M) hr
  intro l
  induction l with
  | nil =>
    intro m i f v o h1 h0 h2 hnd ho
    obtain ⟨m, rfl⟩ : ∃ k, m = k + 1 := ⟨m - 1, by omega⟩
    rw [List.length_nil] at h0
    refine ⟨f, v, 0, hd_end N m (hqo _).1 (hqo _).2.1 (nI_le (by omega) (by omega)), fun j hj => ?_⟩
    rw [b_0]; simp
  | cons k l ih =>
    intro m i f v o h1 h0 h2 hnd ho
    obtain ⟨m, rfl⟩ : ∃ k, m = k + 1 := ⟨m - 1, by omega⟩
    rw [List.length_cons] at h0 h2
    obtain ⟨hoi, hd⟩ := drop_hd h1
    have hlt : ¬ nI r.2.length ≤ nI i := nI_ge (by omega) (by omega)
    by_cases o0 : o = 0
    · refine ⟨f, v, 0, hd_0 N m (hqo _).1 (hqo _).2.1 hlt o0, fun j hj => ?_⟩
      rw [o0, b_0, Bool.false_and]
    · have hk : k < r.2.length := ordR_mem (how := r.1) (List.mem_of_getElem? hoi)
      obtain ⟨ln, hln⟩ := at_ex r.2 hk
      obtain ⟨p, p1, p2⟩ := rl_at (X := X) (C := kT C f v) (M := M) hr hln (by omega)
      have wl := w3 ln (List.mem_of_getElem? hln)
      obtain ⟨b, f1, v1, b1, b2⟩ := k_held (X := X) (M := M) (C := kT C f v) N hN (s.kT (f := f) (v := v)) w wl p2
      rw [kT_kT] at b1
      have hB' : ∀ j, hB e j r.2 k = hldB e j ln := fun j => by unfold hB; rw [hln]
      have fc : ∀ j, (k :: l).find? (hB e j r.2) = if hldB e j ln = true then some k else l.find? (hB e j r.2) := fun j => by
        rw [List.find?_cons, hB' j]
        cases hldB e j ln <;> rfl
      by_cases hkk : k = k0
      · subst hkk
        refine ⟨f1, v1, o &&& b, hd_eq N m (hqo _).1 (hqo _).2.1 hlt o0 ((hqo _).2.2 i k hoi (by omega) (by omega)) p1 b1 (hqo _).1 ((hqo _).2.2 i k hoi (by omega) (by omega)) rfl, fun j hj => ?_⟩
        rw [b_and, b2 j hj, fc j]
        have hnot : ¬ l.find? (hB e j r.2) = some k := fun z => (List.nodup_cons.mp hnd).1 (List.mem_of_find?_eq_some z)
        by_cases q24 : j < 24
        · cases hldB e j ln
          · simp [hnot]
          · simp [q24]
        · rw [ho j (by omega) hj]; simp
      · obtain ⟨f', v', u, u1, u2⟩ := ih m (i + 1) f1 v1 (o &&& (b ^^^ (-1))) hd (by omega) (by omega) (List.nodup_cons.mp hnd).2 (fun j h24 h32 => by rw [b_and, ho j h24 h32, Bool.false_and])
        refine ⟨f', v', u, ?_, fun j hj => ?_⟩
        · rw [hd_ne N m (hqo _).1 (hqo _).2.1 hlt o0 ((hqo _).2.2 i k hoi (by omega) (by omega)) p1 b1 (hqo _).1 ((hqo _).2.2 i k hoi (by omega) (by omega)) (ne_nI hkk (by omega) (by omega)), nI_1]
          exact u1
        · rw [u2 j hj, b_and, bt_not _ hj, b2 j hj, fc j]
          by_cases q24 : j < 24
          · cases hldB e j ln
            · simp [q24]
            · simp [q24, hkk]
          · rw [ho j (by omega) hj]; simp
theorem k_hdec (N : Nat) (hN : 601 ≤ N) {e : EV} {h q k0 : Nat} {r : RSV} (hk0 : k0 < 12) (s : St C e h) (w : WEv e) (wr : WRs r) (hr : isRl mu T q r) : ∃ f v u, f_X9_hoursDecided N (hp X C M T) (some 30) (some q) (nI k0) = some (u, hp X (kT C f v) M T) ∧ ∀ j, j < 32 → bt u j = (decide (j < 24) && (decR e j r == some k0)) := by
  have hol : (ordR r).length = r.2.length := ordR_len (how := r.1) fun l hl => (wr.2.2 l hl).1
  have := wr.2.1
  obtain ⟨f, v, u, u1, u2⟩ := k_hdecL (X := X) (M := M) N hN hk0 s w wr hr (ordR r) N 0 (C.2.1 5) (C.1 12) 16777215 rfl (by omega) (by omega) (ordR_nd (how := r.1)) (fun j h1 h2 => by rw [bt_alh j h2]; simp; omega)
  rw [kT_id, nI_0] at u1
  refine ⟨f, v, u, ?_, fun j hj => ?_⟩
  · unfold f_X9_hoursDecided b_X9_hoursDecided
    rw [io_30, if_pos rfl]
    exact u1
  · rw [u2 j hj, bt_alh j hj, decP_ord (how := r.1) (ls := r.2) wr.1 (fun l hl => (wr.2.2 l hl).1)]; rfl
/-- case i -/
def evC (t : TLD) (i : Nat) : EV := evO t (i / (t_thg t).length / 4) (i / (t_thg t).length % 4) (i % (t_thg t).length)
def csN (t : TLD) : Nat := (t_ppl t).length * 4 * (t_thg t).length
theorem evC_in {t : TLD} {i : Nat} (h : i < csN t) : 0 < (t_thg t).length ∧ i / (t_thg t).length / 4 < (t_ppl t).length ∧ i / (t_thg t).length % 4 < 4 ∧ i % (t_thg t).length < (t_thg t).length := by
  unfold csN at h
  have h0 : 0 < (t_thg t).length := by
    cases hz : (t_thg t).length with
    | zero => rw [hz, Nat.mul_zero] at h; omega
    | succ n => omega
  refine ⟨h0, ?_, Nat.mod_lt _ (by decide), Nat.mod_lt _ h0⟩
  rw [Nat.div_div_eq_div_mul, Nat.mul_comm _ 4]
  refine Nat.div_lt_of_lt_mul ?_
  calc i < (t_ppl t).length * 4 * (t_thg t).length := h
    _ = 4 * (t_thg t).length * (t_ppl t).length := by rw [Nat.mul_comm (t_ppl t).length 4, Nat.mul_assoc, Nat.mul_assoc, Nat.mul_comm (t_ppl t).length]
theorem csN_le {t : TLD} (hW : WTld t) : csN t ≤ 1024 := by
  unfold csN
  have h1 := hW.1
  have h2 := hW.2.1
  calc (t_ppl t).length * 4 * (t_thg t).length ≤ 16 * 4 * 16 := Nat.mul_le_mul (Nat.mul_le_mul_right 4 h1) h2
    _ = 1024 := rfl
theorem k_atCase {t : TLD} (hR : RTab t (C.1 9) (C.1 10) (C.1 11) (C.2.1 2) (C.2.1 3) (C.2.1 4)) (hW : WTld t) {i : Nat} (hi : i < csN t) : ∃ C', f_X9_standAtCase (hp X C M T) (some 30) (some 18) (nI i) = some (hp X C' M T) ∧ EqT C C' ∧ St C' (evC t i) 0 ∧ WEv (evC t i) := by
  obtain ⟨h0, h1, h2, h3⟩ := evC_in hi
  have hc := csN_le hW
  have hn := hW.2.1
  obtain ⟨C', c1, c2, c3⟩ := k_stand (X := X) (M := M) (T := T) (a := i / (t_thg t).length % 4) (h := 0) hR hW h1 h3
  refine ⟨C', ?_, c2, c3, WEv.of hW h1 h2 h3⟩
  refine sc_ab io_30 gr_18_1 (by rw [gi_21_3, hR.2.1]) (nI_nle h0 (by omega)) (nI_ne0 h0 (by omega)) ?_
  have d1 : nI i / nI (t_thg t).length = nI (i / (t_thg t).length) := pk_div (by omega) h0 (by omega)
  have hle : i / (t_thg t).length ≤ i := Nat.div_le_self _ _
  rw [d1]
  have d2 : nI (i / (t_thg t).length) / 4 = nI (i / (t_thg t).length / 4) := by rw [← nI_4, pk_div (by omega) (by decide) (by decide)]
  have d3 : nI (i / (t_thg t).length) - nI (i / (t_thg t).length) / 4 * 4 = nI (i / (t_thg t).length % 4) := by rw [← nI_4, pk_rem (by omega) (by decide) (by decide)]
  have d4 : nI i - nI (i / (t_thg t).length) * nI (t_thg t).length = nI (i % (t_thg t).length) := by rw [← d1, pk_rem (by omega) h0 (by omega)]
  rw [d3, d4, d2, ← nI_0]
  exact c1
theorem m_parts {t : TLD} (hT : MTab t 0 M.2.2) (hW : WTld t) {n : Nat} (hn : n < 24 * csN t) : f_X11_partOf (hp X C M T) (some 35) (nI n) 0 = some (nI (n / 24 / (t_thg t).length / 4)) ∧ f_X11_partOf (hp X C M T) (some 35) (nI n) 1 = some (nI (n / 24 / (t_thg t).length % 4)) ∧ f_X11_partOf (hp X C M T) (some 35) (nI n) 2 = some (nI (n / 24 % (t_thg t).length)) ∧ f_X11_partOf (hp X C M T) (some 35) (nI n) 3 = some (nI (n % 24)) := by
  have hi : n / 24 < csN t := by omega
  obtain ⟨h0, h1, h2, h3⟩ := evC_in hi
  have hc := csN_le hW
  have hl := hW.2.1
  have a6 : aI (hp X C M T) (some 40) 0 0 = some (nI (t_thg t).length) := by rw [az_40_0, hT.2.1]
  have m1 : (96 : Int32) * nI (t_thg t).length = nI (96 * (t_thg t).length) := by rw [show (96 : Int32) = nI 96 by decide, pk_mul]
  have m2 : (24 : Int32) * nI (t_thg t).length = nI (24 * (t_thg t).length) := by rw [← nI_24, pk_mul]
  refine ⟨?_, ?_, ?_, ?_⟩
  · rw [po_0 io_35 gr_35_6 a6 (by rw [m1]; exact nI_ne0 (by omega) (by omega)), m1, pk_div (by omega) (by omega) (by omega), Nat.div_div_eq_div_mul, Nat.div_div_eq_div_mul, show 24 * ((t_thg t).length * 4) = 96 * (t_thg t).length by omega]
  · have hle : n / (24 * (t_thg t).length) ≤ n := Nat.div_le_self _ _
    rw [po_1 io_35 gr_35_6 a6 (by rw [m2]; exact nI_ne0 (by omega) (by omega)), m2, pk_div (by omega) (by omega) (by omega), ← nI_4, pk_rem (by omega) (by decide) (by decide), Nat.div_div_eq_div_mul]
  · rw [po_2 io_35 gr_35_6 a6 (nI_ne0 h0 (by omega)), ← nI_24, pk_div (by omega) (by decide) (by decide), pk_rem (by omega) h0 (by omega)]
  · rw [po_3 io_35, ← nI_24, pk_rem (by omega) (by decide) (by decide)]
theorem m_allN {t : TLD} (hT : MTab t 0 M.2.2) : f_X11_all (hp X C M T) (some 35) = some (nI (24 * csN t)) := by
  rw [ma_all io_35 gr_35_3 (by rw [az_37_0, hT.1]) gr_35_6 (by rw [az_40_0, hT.2.1]), ← nI_4, ← nI_24, pk_mul, pk_mul, pk_mul, Nat.mul_comm _ 24]; rfl
theorem k_casN {t : TLD} (hR : RTab t (C.1 9) (C.1 10) (C.1 11) (C.2.1 2) (C.2.1 3) (C.2.1 4)) : f_X8_cases (hp X C M T) (some 18) = some (nI (csN t)) := by
  rw [ka_cases io_18 gr_18_0 (by rw [gi_19_3, hR.1]) gr_18_1 (by rw [gi_21_3, hR.2.1]), ← nI_4, pk_mul, pk_mul]; rfl
theorem MEv.ofC {t : TLD} (hW : WTld t) (hT : MTab t 0 M.2.2) {i : Nat} (hi : i < csN t) : MEv M (evC t i) := by
  obtain ⟨h0, h1, h2, h3⟩ := evC_in hi
  exact MEv.of hW hT h1 h3
theorem WEv.ofC {t : TLD} (hW : WTld t) {i : Nat} (hi : i < csN t) : WEv (evC t i) := by
  obtain ⟨h0, h1, h2, h3⟩ := evC_in hi
  exact WEv.of hW h1 h2 h3
theorem m_allLet (N : Nat) (hN : 1820 ≤ N) {t : TLD} {r : RSV} {s : Nat} (hs : s < 4) (hT : MTab t 0 M.2.2) (hW : WTld t) (wr : WRs r) (hr : MRs M s r) (h39 : M.1 39 = 0) (h40 : M.1 40 = 0) {n : Nat} (hn : n < 24 * csN t) : ∃ f, f_X11_isAllLet N (hp X C M T) (some 35) (nI s) (nI n) = some (b01 (letR (evC t (n / 24)) (n % 24) r), hp X C (mT M f) T) := by
  have hi : n / 24 < csN t := by omega
  obtain ⟨p0, p1, p2, p3⟩ := m_parts (X := X) (C := C) (T := T) hT hW hn
  obtain ⟨f, hf⟩ := m_let0 (X := X) (C := C) (T := T) (e := evC t (n / 24)) N hN hs (show n % 24 < 24 by omega) (MEv.ofC hW hT hi) (WEv.ofC hW hi) wr hr h39 h40
  exact ⟨f, ia_ab N io_35 p0 p1 p2 p3 _ hf⟩
end CAS
