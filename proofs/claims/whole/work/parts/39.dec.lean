/-! the LINE that decides: what both sides find -/
theorem fr_succ (P : Nat → Bool) (n : Nat) : (List.range (n + 1)).find? P = ((List.range n).find? P).or (if P n then some n else none) := by
  rw [List.range_succ, List.find?_append]
  congr 1
  rw [List.find?_cons]
  cases P n <;> rfl
/-- the LINE that decides among the first n, of those that HOLD (H), L: those that let -/
def decP (how n : Nat) (H L : Nat → Bool) : Option Nat := if how = 0 then (List.range n).find? H else if how = 1 then (List.range n).reverse.find? H else ((List.range n).find? fun j => H j && (L j == (how == 3))).or ((List.range n).find? H)
def letP (how n : Nat) (H L : Nat → Bool) : Bool := match decP how n H L with
  | none => false
  | some k => L k
def oI : Option Nat → Int32
  | none => -1
  | some k => nI k
theorem find_lt {P : Nat → Bool} {n k : Nat} (h : (List.range n).find? P = some k) : k < n ∧ P k = true := ⟨List.mem_range.mp (List.mem_of_find?_eq_some h), List.find?_some h⟩
theorem decP_lt {how n k : Nat} {H L : Nat → Bool} (h : decP how n H L = some k) : k < n ∧ H k = true := by
  unfold decP at h
  split at h
  · exact find_lt h
  · split at h
    · refine ⟨?_, List.find?_some h⟩
      have := List.mem_of_find?_eq_some h
      rw [List.mem_reverse] at this
      exact List.mem_range.mp this
    · rw [Option.or_eq_some_iff] at h
      rcases h with h | ⟨-, h⟩
      · have := find_lt h
        refine ⟨this.1, ?_⟩
        have := this.2
        simp at this
        exact this.1
      · exact find_lt h
theorem decP_no {how n : Nat} {H L : Nat → Bool} (h : H n = false) : decP how (n + 1) H L = decP how n H L := by
  unfold decP
  split
  · rw [fr_succ, h]; simp
  · split
    · rw [List.range_succ, List.reverse_append]; simp [h]
    · rw [fr_succ, fr_succ, h]; simp
theorem decP_0 {n m : Nat} {H L : Nat → Bool} (h0 : decP 0 n H L = none) (h : H n = true) (hm : n < m) : decP 0 m H L = some n := by
  unfold decP at h0 ⊢
  rw [if_pos rfl] at h0 ⊢
  refine List.find?_range_eq_some.mpr ⟨h, List.mem_range.mpr hm, fun j hj => ?_⟩
  have := List.find?_eq_none.mp h0 j (List.mem_range.mpr hj)
  simpa using this
theorem decP_1 {n : Nat} {H L : Nat → Bool} (h : H n = true) : decP 1 (n + 1) H L = some n := by
  unfold decP
  rw [if_neg (by decide), if_pos rfl, List.range_succ, List.reverse_append]
  simp [h]
theorem decP_2 {how n : Nat} {H L : Nat → Bool} (h2 : 2 ≤ how) (h : H n = true) : decP how (n + 1) H L = match decP how n H L with
    | none => some n
    | some k => if L n = (how == 3) ∧ ¬ L k = (how == 3) then some n else some k := by
  unfold decP
  rw [if_neg (by omega), if_neg (by omega), if_neg (by omega), if_neg (by omega), fr_succ, fr_succ, h]
  cases q1 : (List.range n).find? fun j => H j && (L j == (how == 3)) with
  | some k =>
    have := (find_lt q1).2
    simp at this
    simp [this.2]
  | none =>
    cases q2 : (List.range n).find? H with
    | none => cases hL : (L n == (how == 3)) <;> simp
    | some k =>
      have hk := find_lt q2
      have hn := List.find?_eq_none.mp q1 k (List.mem_range.mpr hk.1)
      simp [hk.2] at hn
      cases hL : (L n == (how == 3))
      · have : ¬ L n = (how == 3) := by intro z; rw [z] at hL; simp at hL
        simp [this]
      · have : L n = (how == 3) := by simpa using hL
        simp [this, hn]
theorem find_congr {P Q : Nat → Bool} : ∀ {l : List Nat}, (∀ x ∈ l, P x = Q x) → l.find? P = l.find? Q := by
  intro l
  induction l with
  | nil => intro _; rfl
  | cons a l ih =>
    intro h
    rw [List.find?_cons, List.find?_cons, h a List.mem_cons_self, ih fun x hx => h x (List.mem_cons_of_mem _ hx)]
def lnB (ls : List LNV) (b j : Nat) : Bool := match ls[j]? with
  | some l => l.1 == b
  | none => false
theorem ordL_l (ls : List LNV) (b : Nat) : ordL ls b = (List.range ls.length).filter (lnB ls b) := rfl
/-- the class's order finds the same -/
theorem decP_ord {how : Nat} {ls : List LNV} (hh : how < 4) (hl : ∀ l ∈ ls, l.1 < 2) (H : Nat → Bool) : (ordR (how, ls)).find? H = decP how ls.length H (letB ls) := by
  have fo : ∀ b, (ordL ls b).find? H = (List.range ls.length).find? fun j => H j && lnB ls b j := fun b => by
    rw [ordL_l, List.find?_filter]
    refine find_congr fun j _ => ?_
    cases H j <;> cases lnB ls b j <;> rfl
  have hb : ∀ j, j < ls.length → (letB ls j == false) = lnB ls 0 j ∧ (letB ls j == true) = lnB ls 1 j := fun j hj => by
    obtain ⟨l, hl'⟩ := at_ex ls hj
    have := hl l (List.mem_of_getElem? hl')
    unfold letB lnB
    rw [hl']
    rcases (show l.1 = 0 ∨ l.1 = 1 by omega) with q | q <;> simp [q]
  have key : ∀ (P Q : Nat → Bool), (∀ j, j < ls.length → H j = true → P j = false → Q j = true) → ((List.range ls.length).find? fun j => H j && P j).or ((List.range ls.length).find? fun j => H j && Q j) = ((List.range ls.length).find? fun j => H j && P j).or ((List.range ls.length).find? H) := by
    intro P Q hPQ
    cases q : (List.range ls.length).find? fun j => H j && P j with
    | some k => simp
    | none =>
      simp only [Option.none_or]
      refine find_congr fun j hj => ?_
      have hn := List.find?_eq_none.mp q j hj
      cases hH : H j with
      | false => rfl
      | true =>
        have : P j = false := by simpa [hH] using hn
        rw [hPQ j (List.mem_range.mp hj) hH this]; rfl
  rcases (show how = 0 ∨ how = 1 ∨ how = 2 ∨ how = 3 by omega) with rfl | rfl | rfl | rfl
  · rfl
  · rfl
  · show (ordL ls 0 ++ ordL ls 1).find? H = _
    rw [List.find?_append, fo, fo]
    rw [key _ _ (fun j hj hH hP => by
      have := hb j hj
      rw [← this.1] at hP
      rw [← this.2]
      simpa using hP)]
    unfold decP
    rw [if_neg (by decide), if_neg (by decide)]
    congr 1
    refine find_congr fun j hj => ?_
    rw [← (hb j (List.mem_range.mp hj)).1]; rfl
  · show (ordL ls 1 ++ ordL ls 0).find? H = _
    rw [List.find?_append, fo, fo]
    rw [key _ _ (fun j hj hH hP => by
      have := hb j hj
      rw [← this.2] at hP
      rw [← this.1]
      simpa using hP)]
    unfold decP
    rw [if_neg (by decide), if_neg (by decide)]
    congr 1
    refine find_congr fun j hj => ?_
    rw [← (hb j (List.mem_range.mp hj)).2]; rfl
/-- which LINES HOLD -/
def hB (e : EV) (h : Nat) (ls : List LNV) (k : Nat) : Bool := match ls[k]? with
  | some l => hldB e h l
  | none => false
section DEC
variable {X : XS} {C : CS} {M : MS} {T : TS} {S : SG} {K : Nat} {mu : List Nat}
/-- the reference's RULES in a slot -/
def MRs (M : MS) (s : Nat) (r : RSV) : Prop := M.2.2 13 s = nI r.1 ∧ M.2.2 14 s = nI r.2.length ∧ ∀ (k : Nat) (l : LNV), r.2[k]? = some l → MLn M.2.2 s k l
theorem MRs.of {sl : Nat → RSV} (h : MSl M.2.2 0 sl) {s : Nat} (hs : s < 4) : MRs M s (sl s) := by
  have := h s hs
  simp only [Nat.mul_zero, Nat.zero_add] at this
  exact this
theorem MLn.mT {s k : Nat} {l : LNV} {f : Nat → Int32} (h : MLn M.2.2 s k l) : MLn (mT M f).2.2 s k l := by
  unfold MLn at h ⊢
  rw [mT_n (by decide), mT_n (by decide), mT_n (by decide)]
  exact h
theorem MRs.mT {s : Nat} {r : RSV} {f : Nat → Int32} (h : MRs M s r) : MRs (mT M f) s r := by
  obtain ⟨h1, h2, h3⟩ := h
  refine ⟨by rw [mT_n (by decide)]; exact h1, by rw [mT_n (by decide)]; exact h2, fun k l hl => (h3 k l hl).mT⟩
theorem MEv.mT {e : EV} {f : Nat → Int32} (h : MEv M e) : MEv (mT M f) e := by
  unfold MEv at h ⊢
  rw [mT_n (by decide), mT_n (by decide), mT_n (by decide), mT_n (by decide), mT_n (by decide)]
  exact h
theorem h_320 (N : Nat) (hN : 1820 ≤ N) {e : EV} {h s k : Nat} {l : LNV} (z : Bool) (hs : s < 4) (hk : k < 12) (hh : h < 24) (me : MEv M e) (w : WEv e) (wl : WLn l) (hl : MLn M.2.2 s k l) : ∃ f, b_X11_holds_320 N (hp X C M T) (some 35) (nI s) (nI (e_p e)) (nI (e_t e)) (nI h) (nI (96 * s + 8 * k)) (b01 z) = some (b01 (z && whenB e h l.2.2.2.2.2.2), hp X C (mT M f) T) := by
  obtain ⟨c1, c2, c3, c4, c5, c6, c7⟩ := hl
  obtain ⟨v1, v2, v3, v4, v5, v6, v7, v8, v9⟩ := wl
  cases z with
  | false => exact ⟨M.2.2 38, by simp only [b_X11_holds_320, b01, cond_false, if_true, Bool.false_and, mT_id]⟩
  | true =>
    have e6 : nI (96 * s + 8 * k) + 6 = nI (96 * s + (8 * k + 6)) := by rw [← nI_6, nI_add, Nat.add_assoc]
    have b6 : 96 * s + (8 * k + 6) < 1536 := by omega
    rcases c7 with ⟨d1, d2⟩ | ⟨d1, off, d2, d3, d4⟩
    · refine ⟨M.2.2 38, ?_⟩
      rw [d1, mT_id]
      have a6 : aI (hp X C M T) (some 49) 0 (nI (96 * s + 8 * k) + 6) = some (-1) := by rw [e6, ai_49 b6, d2]
      unfold b_X11_holds_320
      show (if (1 : Int32) = 0 then _ else _) = some ((1 : Int32), hp X C M T)
      (repeat (first | with_reducible rfl | refine (bnd_eq (by first | with_reducible assumption | with_reducible exact gr_35_15)).trans ?_ | refine (if_pos (by first | with_reducible assumption | with_reducible rfl | decide | (dsimp only; first | with_reducible assumption | with_reducible rfl | decide))).trans ?_ | refine (if_neg (by first | with_reducible assumption | decide | (dsimp only; first | with_reducible assumption | decide))).trans ?_))
    · have v8' := v8.resolve_left d1
      have hca : CodeAt M (900 * s + off) (mcode l.2.2.2.2.2.2) := by
        refine ⟨by omega, fun i x hx => ?_⟩
        rw [Nat.add_assoc]; exact d4 i x hx
      have hlen : (mcode l.2.2.2.2.2.2).length ≤ 1801 := by omega
      obtain ⟨F, f', g1, g2⟩ := m_testL (X := X) (C := C) (T := T) N (by omega) hh me w l.2.2.2.2.2.2 (900 * s + off) N (M.2.2 38) [] v9 hca (by omega) (by simp) v8' (fun i F hF => by cases hF)
      rw [mT_id, List.length_nil, nI_0] at g2
      have hne : ¬ nI off = -1 := fun z => nI_pos (n := off) (by omega) (by rw [z]; decide)
      have e9 : (900 : Int32) * nI s + nI off = nI (900 * s + off) := by rw [show (900 : Int32) = nI 900 by decide, pk_mul, nI_add]
      have hwb : whenB e h l.2.2.2.2.2.2 = F h := by
        unfold whenB
        rw [g1]
        cases hq : l.2.2.2.2.2.2 with
        | nil => exact absurd hq d1
        | cons a b => rfl
      refine ⟨f', ?_⟩
      rw [hwb, Bool.true_and]
      have a6 : aI (hp X C M T) (some 49) 0 (nI (96 * s + 8 * k) + 6) = some (nI off) := by rw [e6, ai_49 b6, d3]
      have g3 : f_X11_tested N (hp X C M T) (some 35) (nI s) (nI off) (nI (e_p e)) (nI (e_t e)) (nI h) = some (b01 (F h), hp X C (mT M f') T) := by
        unfold f_X11_tested b_X11_tested
        rw [io_35, if_pos rfl, e9, g2, zc_b]
      unfold b_X11_holds_320
      cases hF : F h with
      | true =>
        rw [hF] at g3
        show (if (1 : Int32) = 0 then _ else _) = some ((1 : Int32), hp X C (mT M f') T)
        (repeat (first | with_reducible rfl | refine (bnd_eq (by first | with_reducible assumption | with_reducible exact gr_35_15)).trans ?_ | refine (if_pos (by first | with_reducible assumption | with_reducible rfl | decide | (dsimp only; first | with_reducible assumption | with_reducible rfl | decide))).trans ?_ | refine (if_neg (by first | with_reducible assumption | decide | (dsimp only; first | with_reducible assumption | decide))).trans ?_))
      | false =>
        rw [hF] at g3
        show (if (1 : Int32) = 0 then _ else _) = some ((0 : Int32), hp X C (mT M f') T)
        (repeat (first | with_reducible rfl | refine (bnd_eq (by first | with_reducible assumption | with_reducible exact gr_35_15)).trans ?_ | refine (if_pos (by first | with_reducible assumption | with_reducible rfl | decide | (dsimp only; first | with_reducible assumption | with_reducible rfl | decide))).trans ?_ | refine (if_neg (by first | with_reducible assumption | decide | (dsimp only; first | with_reducible assumption | decide))).trans ?_))
theorem h_210 (N : Nat) {e : EV} {s k : Nat} {l : LNV} {h : Int32} (z : Bool) (hs : s < 4) (hk : k < 12) (me : MEv M e) (w : WEv e) (wl : WLn l) (hl : MLn M.2.2 s k l) : b_X11_holds_210 N (hp X C M T) (some 35) (nI s) (nI (e_p e)) (nI (e_t e)) h (nI (96 * s + 8 * k)) (nI l.2.2.2.2.2.1) (b01 z) = b_X11_holds_320 N (hp X C M T) (some 35) (nI s) (nI (e_p e)) (nI (e_t e)) h (nI (96 * s + 8 * k)) (b01 (z && whatB e l)) := by
  obtain ⟨c1, c2, c3, c4, c5, c6, c7⟩ := hl
  obtain ⟨v1, v2, v3, v4, v5, v6, v7, v8, v9⟩ := wl
  obtain ⟨w1, w2, w3, w4, w5, w6, w7⟩ := w
  obtain ⟨m1, m2, m3, m4, -⟩ := me
  have e4 : nI (96 * s + 8 * k) + 4 = nI (96 * s + (8 * k + 4)) := by rw [← nI_4, nI_add, Nat.add_assoc]
  have b4 : 96 * s + (8 * k + 4) < 1536 := by omega
  have a4 := ai_49 (X := X) (C := C) (M := M) (T := T) b4
  rw [← e4, c5] at a4
  have a7 := ai_41 (X := X) (C := C) (M := M) (T := T) (k := e_t e) (by omega)
  rw [m3] at a7
  have a8 := ai_42 (X := X) (C := C) (M := M) (T := T) (k := e_t e) (by omega)
  rw [m4] at a8
  have i2 : e_t e < 64 := by omega
  unfold whatB
  rcases (show l.2.2.2.2.1 = 0 ∨ l.2.2.2.2.1 = 1 ∨ l.2.2.2.2.1 = 2 ∨ l.2.2.2.2.1 = 3 by omega) with q | q | q | q <;> rw [q] at a4 ⊢
  · rw [nI_0] at a4
    rw [if_pos rfl, Bool.and_true]
    unfold b_X11_holds_210; (repeat (first | with_reducible rfl | refine (bnd_eq (by first | with_reducible assumption | with_reducible exact gr_35_15 | with_reducible exact gr_35_7 | with_reducible exact gr_35_8 | with_reducible exact gr_35_4 | with_reducible exact gr_35_5 | with_reducible exact gr_35_9)).trans ?_ | refine (if_pos (by first | with_reducible assumption | with_reducible rfl | decide | (dsimp only; first | with_reducible assumption | with_reducible rfl | decide))).trans ?_ | refine (if_neg (by first | with_reducible assumption | decide | (dsimp only; first | with_reducible assumption | decide))).trans ?_ | unfold b_X11_holds_265 | unfold b_X11_holds_266 | unfold b_X11_holds_287 | unfold b_X11_holds_288 | unfold b_X11_holds_314 | unfold b_X11_holds_315))
  · rw [nI_1'] at a4
    rw [if_neg (by decide), if_pos rfl]
    cases z with
    | false =>
      simp only [Bool.false_and, Bool.true_and, Bool.and_true, b01, cond_true, cond_false]
      unfold b_X11_holds_210; (repeat (first | with_reducible rfl | refine (bnd_eq (by first | with_reducible assumption | with_reducible exact gr_35_15 | with_reducible exact gr_35_7 | with_reducible exact gr_35_8 | with_reducible exact gr_35_4 | with_reducible exact gr_35_5 | with_reducible exact gr_35_9)).trans ?_ | refine (if_pos (by first | with_reducible assumption | with_reducible rfl | decide | (dsimp only; first | with_reducible assumption | with_reducible rfl | decide))).trans ?_ | refine (if_neg (by first | with_reducible assumption | decide | (dsimp only; first | with_reducible assumption | decide))).trans ?_ | unfold b_X11_holds_265 | unfold b_X11_holds_266 | unfold b_X11_holds_287 | unfold b_X11_holds_288 | unfold b_X11_holds_314 | unfold b_X11_holds_315))
    | true =>
      by_cases y : e_k e = l.2.2.2.2.2.1
      · have y' : nI (e_k e) = nI l.2.2.2.2.2.1 := congrArg nI y
        have : (e_k e == l.2.2.2.2.2.1) = true := by simp [y]
        rw [this]
        simp only [Bool.false_and, Bool.true_and, Bool.and_true, b01, cond_true, cond_false]
        unfold b_X11_holds_210; (repeat (first | with_reducible rfl | refine (bnd_eq (by first | with_reducible assumption | with_reducible exact gr_35_15 | with_reducible exact gr_35_7 | with_reducible exact gr_35_8 | with_reducible exact gr_35_4 | with_reducible exact gr_35_5 | with_reducible exact gr_35_9)).trans ?_ | refine (if_pos (by first | with_reducible assumption | with_reducible rfl | decide | (dsimp only; first | with_reducible assumption | with_reducible rfl | decide))).trans ?_ | refine (if_neg (by first | with_reducible assumption | decide | (dsimp only; first | with_reducible assumption | decide))).trans ?_ | unfold b_X11_holds_265 | unfold b_X11_holds_266 | unfold b_X11_holds_287 | unfold b_X11_holds_288 | unfold b_X11_holds_314 | unfold b_X11_holds_315))
      · have y' : ¬ nI (e_k e) = nI l.2.2.2.2.2.1 := fun z => y ((nI_eq (by omega) (by omega)).mp z)
        have : (e_k e == l.2.2.2.2.2.1) = false := by simp [y]
        rw [this]
        simp only [Bool.false_and, Bool.true_and, Bool.and_true, b01, cond_true, cond_false]
        unfold b_X11_holds_210; (repeat (first | with_reducible rfl | refine (bnd_eq (by first | with_reducible assumption | with_reducible exact gr_35_15 | with_reducible exact gr_35_7 | with_reducible exact gr_35_8 | with_reducible exact gr_35_4 | with_reducible exact gr_35_5 | with_reducible exact gr_35_9)).trans ?_ | refine (if_pos (by first | with_reducible assumption | with_reducible rfl | decide | (dsimp only; first | with_reducible assumption | with_reducible rfl | decide))).trans ?_ | refine (if_neg (by first | with_reducible assumption | decide | (dsimp only; first | with_reducible assumption | decide))).trans ?_ | unfold b_X11_holds_265 | unfold b_X11_holds_266 | unfold b_X11_holds_287 | unfold b_X11_holds_288 | unfold b_X11_holds_314 | unfold b_X11_holds_315))
  · rw [nI_2] at a4
    rw [if_neg (by decide), if_neg (by decide), if_pos rfl]
    cases z with
    | false =>
      simp only [Bool.false_and, Bool.true_and, Bool.and_true, b01, cond_true, cond_false]
      unfold b_X11_holds_210; (repeat (first | with_reducible rfl | refine (bnd_eq (by first | with_reducible assumption | with_reducible exact gr_35_15 | with_reducible exact gr_35_7 | with_reducible exact gr_35_8 | with_reducible exact gr_35_4 | with_reducible exact gr_35_5 | with_reducible exact gr_35_9)).trans ?_ | refine (if_pos (by first | with_reducible assumption | with_reducible rfl | decide | (dsimp only; first | with_reducible assumption | with_reducible rfl | decide))).trans ?_ | refine (if_neg (by first | with_reducible assumption | decide | (dsimp only; first | with_reducible assumption | decide))).trans ?_ | unfold b_X11_holds_265 | unfold b_X11_holds_266 | unfold b_X11_holds_287 | unfold b_X11_holds_288 | unfold b_X11_holds_314 | unfold b_X11_holds_315))
    | true =>
      by_cases y : e_t e = l.2.2.2.2.2.1
      · have y' : nI (e_t e) = nI l.2.2.2.2.2.1 := congrArg nI y
        have : (e_t e == l.2.2.2.2.2.1) = true := by simp [y]
        rw [this]
        simp only [Bool.false_and, Bool.true_and, Bool.and_true, b01, cond_true, cond_false]
        unfold b_X11_holds_210; (repeat (first | with_reducible rfl | refine (bnd_eq (by first | with_reducible assumption | with_reducible exact gr_35_15 | with_reducible exact gr_35_7 | with_reducible exact gr_35_8 | with_reducible exact gr_35_4 | with_reducible exact gr_35_5 | with_reducible exact gr_35_9)).trans ?_ | refine (if_pos (by first | with_reducible assumption | with_reducible rfl | decide | (dsimp only; first | with_reducible assumption | with_reducible rfl | decide))).trans ?_ | refine (if_neg (by first | with_reducible assumption | decide | (dsimp only; first | with_reducible assumption | decide))).trans ?_ | unfold b_X11_holds_265 | unfold b_X11_holds_266 | unfold b_X11_holds_287 | unfold b_X11_holds_288 | unfold b_X11_holds_314 | unfold b_X11_holds_315))
      · have y' : ¬ nI (e_t e) = nI l.2.2.2.2.2.1 := fun z => y ((nI_eq (by omega) (by omega)).mp z)
        have : (e_t e == l.2.2.2.2.2.1) = false := by simp [y]
        rw [this]
        simp only [Bool.false_and, Bool.true_and, Bool.and_true, b01, cond_true, cond_false]
        unfold b_X11_holds_210; (repeat (first | with_reducible rfl | refine (bnd_eq (by first | with_reducible assumption | with_reducible exact gr_35_15 | with_reducible exact gr_35_7 | with_reducible exact gr_35_8 | with_reducible exact gr_35_4 | with_reducible exact gr_35_5 | with_reducible exact gr_35_9)).trans ?_ | refine (if_pos (by first | with_reducible assumption | with_reducible rfl | decide | (dsimp only; first | with_reducible assumption | with_reducible rfl | decide))).trans ?_ | refine (if_neg (by first | with_reducible assumption | decide | (dsimp only; first | with_reducible assumption | decide))).trans ?_ | unfold b_X11_holds_265 | unfold b_X11_holds_266 | unfold b_X11_holds_287 | unfold b_X11_holds_288 | unfold b_X11_holds_314 | unfold b_X11_holds_315))
  · rw [nI_3] at a4
    rw [if_neg (by decide), if_neg (by decide), if_neg (by decide)]
    cases z with
    | false =>
      simp only [Bool.false_and, Bool.true_and, Bool.and_true, b01, cond_true, cond_false]
      unfold b_X11_holds_210; (repeat (first | with_reducible rfl | refine (bnd_eq (by first | with_reducible assumption | with_reducible exact gr_35_15 | with_reducible exact gr_35_7 | with_reducible exact gr_35_8 | with_reducible exact gr_35_4 | with_reducible exact gr_35_5 | with_reducible exact gr_35_9)).trans ?_ | refine (if_pos (by first | with_reducible assumption | with_reducible rfl | decide | (dsimp only; first | with_reducible assumption | with_reducible rfl | decide))).trans ?_ | refine (if_neg (by first | with_reducible assumption | decide | (dsimp only; first | with_reducible assumption | decide))).trans ?_ | unfold b_X11_holds_265 | unfold b_X11_holds_266 | unfold b_X11_holds_287 | unfold b_X11_holds_288 | unfold b_X11_holds_314 | unfold b_X11_holds_315))
    | true =>
      by_cases y : l.2.2.2.2.2.1 ≤ e_l e
      · have y' : ¬ nI (e_l e) < nI l.2.2.2.2.2.1 := nI_nlt y (by omega)
        have : decide (l.2.2.2.2.2.1 ≤ e_l e) = true := by simp [y]
        rw [this]
        simp only [Bool.false_and, Bool.true_and, Bool.and_true, b01, cond_true, cond_false]
        unfold b_X11_holds_210; (repeat (first | with_reducible rfl | refine (bnd_eq (by first | with_reducible assumption | with_reducible exact gr_35_15 | with_reducible exact gr_35_7 | with_reducible exact gr_35_8 | with_reducible exact gr_35_4 | with_reducible exact gr_35_5 | with_reducible exact gr_35_9)).trans ?_ | refine (if_pos (by first | with_reducible assumption | with_reducible rfl | decide | (dsimp only; first | with_reducible assumption | with_reducible rfl | decide))).trans ?_ | refine (if_neg (by first | with_reducible assumption | decide | (dsimp only; first | with_reducible assumption | decide))).trans ?_ | unfold b_X11_holds_265 | unfold b_X11_holds_266 | unfold b_X11_holds_287 | unfold b_X11_holds_288 | unfold b_X11_holds_314 | unfold b_X11_holds_315))
      · have y' : nI (e_l e) < nI l.2.2.2.2.2.1 := nI_lt (by omega) (by omega)
        have : decide (l.2.2.2.2.2.1 ≤ e_l e) = false := by simp; omega
        rw [this]
        simp only [Bool.false_and, Bool.true_and, Bool.and_true, b01, cond_true, cond_false]
        unfold b_X11_holds_210; (repeat (first | with_reducible rfl | refine (bnd_eq (by first | with_reducible assumption | with_reducible exact gr_35_15 | with_reducible exact gr_35_7 | with_reducible exact gr_35_8 | with_reducible exact gr_35_4 | with_reducible exact gr_35_5 | with_reducible exact gr_35_9)).trans ?_ | refine (if_pos (by first | with_reducible assumption | with_reducible rfl | decide | (dsimp only; first | with_reducible assumption | with_reducible rfl | decide))).trans ?_ | refine (if_neg (by first | with_reducible assumption | decide | (dsimp only; first | with_reducible assumption | decide))).trans ?_ | unfold b_X11_holds_265 | unfold b_X11_holds_266 | unfold b_X11_holds_287 | unfold b_X11_holds_288 | unfold b_X11_holds_314 | unfold b_X11_holds_315))
theorem h_65 (N : Nat) {e : EV} {s k : Nat} {l : LNV} {h : Int32} (z : Bool) (hs : s < 4) (hk : k < 12) (me : MEv M e) (w : WEv e) (wl : WLn l) (hl : MLn M.2.2 s k l) : b_X11_holds_65 N (hp X C M T) (some 35) (nI s) (nI (e_p e)) (nI (e_t e)) h (nI (96 * s + 8 * k)) (nI l.2.2.1) (nI l.2.2.2.2.2.1) (b01 z) = b_X11_holds_210 N (hp X C M T) (some 35) (nI s) (nI (e_p e)) (nI (e_t e)) h (nI (96 * s + 8 * k)) (nI l.2.2.2.2.2.1) (b01 (z && whoB e l)) := by
  obtain ⟨c1, c2, c3, c4, c5, c6, c7⟩ := hl
  obtain ⟨v1, v2, v3, v4, v5, v6, v7, v8, v9⟩ := wl
  obtain ⟨w1, w2, w3, w4, w5, w6, w7⟩ := w
  obtain ⟨m1, m2, m3, m4, o, m5, m6, m7⟩ := me
  have e4 : nI (96 * s + 8 * k) + 1 = nI (96 * s + (8 * k + 1)) := by rw [nI_1]; congr 1
  have b4 : 96 * s + (8 * k + 1) < 1536 := by omega
  have a4 := ai_49 (X := X) (C := C) (M := M) (T := T) b4
  rw [← e4, c2] at a4
  have a5 := ai_39 (X := X) (C := C) (M := M) (T := T) (k := e_p e) (by omega)
  rw [m2] at a5
  have a6 := ai_38 (X := X) (C := C) (M := M) (T := T) (k := e_p e) (by omega)
  rw [m1] at a6
  have a9 := ai_43 (X := X) (C := C) (M := M) (T := T) (k := e_t e) (by omega)
  rw [m6] at a9
  have i1 : e_p e < 64 := by omega
  have i2 : e_t e < 64 := by omega
  unfold whoB
  rcases (show l.2.1 = 0 ∨ l.2.1 = 1 ∨ l.2.1 = 2 ∨ l.2.1 = 3 ∨ l.2.1 = 4 by omega) with q | q | q | q | q <;> rw [q] at a4 ⊢
  · rw [nI_0] at a4
    rw [if_pos rfl, Bool.and_true]
    unfold b_X11_holds_65; (repeat (first | with_reducible rfl | refine (bnd_eq (by first | with_reducible assumption | with_reducible exact gr_35_15 | with_reducible exact gr_35_7 | with_reducible exact gr_35_8 | with_reducible exact gr_35_4 | with_reducible exact gr_35_5 | with_reducible exact gr_35_9)).trans ?_ | refine (if_pos (by first | with_reducible assumption | with_reducible rfl | decide | (dsimp only; first | with_reducible assumption | with_reducible rfl | decide))).trans ?_ | refine (if_neg (by first | with_reducible assumption | decide | (dsimp only; first | with_reducible assumption | decide))).trans ?_ | unfold b_X11_holds_131 | unfold b_X11_holds_132 | unfold b_X11_holds_152 | unfold b_X11_holds_153 | unfold b_X11_holds_178 | unfold b_X11_holds_179 | unfold b_X11_holds_204 | unfold b_X11_holds_205))
  · rw [nI_1'] at a4
    rw [if_neg (by decide), if_pos rfl]
    cases z with
    | false =>
      simp only [Bool.false_and, Bool.true_and, Bool.and_true, b01, cond_true, cond_false]
      unfold b_X11_holds_65; (repeat (first | with_reducible rfl | refine (bnd_eq (by first | with_reducible assumption | with_reducible exact gr_35_15 | with_reducible exact gr_35_7 | with_reducible exact gr_35_8 | with_reducible exact gr_35_4 | with_reducible exact gr_35_5 | with_reducible exact gr_35_9)).trans ?_ | refine (if_pos (by first | with_reducible assumption | with_reducible rfl | decide | (dsimp only; first | with_reducible assumption | with_reducible rfl | decide))).trans ?_ | refine (if_neg (by first | with_reducible assumption | decide | (dsimp only; first | with_reducible assumption | decide))).trans ?_ | unfold b_X11_holds_131 | unfold b_X11_holds_132 | unfold b_X11_holds_152 | unfold b_X11_holds_153 | unfold b_X11_holds_178 | unfold b_X11_holds_179 | unfold b_X11_holds_204 | unfold b_X11_holds_205))
    | true =>
      have sb := sbit (nI (e_g e)) (n := l.2.2.1) (by omega)
      rw [bt_nI (by omega)] at sb
      cases y : (e_g e).testBit l.2.2.1 with
      | true =>
        have y' : ¬ (nI (e_g e) >>> (nI l.2.2.1 &&& 31)) &&& 1 = 0 := fun z => by rw [sb.mp z] at y; cases y
        simp only [Bool.false_and, Bool.true_and, Bool.and_true, b01, cond_true, cond_false]
        unfold b_X11_holds_65; (repeat (first | with_reducible rfl | refine (bnd_eq (by first | with_reducible assumption | with_reducible exact gr_35_15 | with_reducible exact gr_35_7 | with_reducible exact gr_35_8 | with_reducible exact gr_35_4 | with_reducible exact gr_35_5 | with_reducible exact gr_35_9)).trans ?_ | refine (if_pos (by first | with_reducible assumption | with_reducible rfl | decide | (dsimp only; first | with_reducible assumption | with_reducible rfl | decide))).trans ?_ | refine (if_neg (by first | with_reducible assumption | decide | (dsimp only; first | with_reducible assumption | decide))).trans ?_ | unfold b_X11_holds_131 | unfold b_X11_holds_132 | unfold b_X11_holds_152 | unfold b_X11_holds_153 | unfold b_X11_holds_178 | unfold b_X11_holds_179 | unfold b_X11_holds_204 | unfold b_X11_holds_205))
      | false =>
        have y' : (nI (e_g e) >>> (nI l.2.2.1 &&& 31)) &&& 1 = 0 := sb.mpr y
        simp only [Bool.false_and, Bool.true_and, Bool.and_true, b01, cond_true, cond_false]
        unfold b_X11_holds_65; (repeat (first | with_reducible rfl | refine (bnd_eq (by first | with_reducible assumption | with_reducible exact gr_35_15 | with_reducible exact gr_35_7 | with_reducible exact gr_35_8 | with_reducible exact gr_35_4 | with_reducible exact gr_35_5 | with_reducible exact gr_35_9)).trans ?_ | refine (if_pos (by first | with_reducible assumption | with_reducible rfl | decide | (dsimp only; first | with_reducible assumption | with_reducible rfl | decide))).trans ?_ | refine (if_neg (by first | with_reducible assumption | decide | (dsimp only; first | with_reducible assumption | decide))).trans ?_ | unfold b_X11_holds_131 | unfold b_X11_holds_132 | unfold b_X11_holds_152 | unfold b_X11_holds_153 | unfold b_X11_holds_178 | unfold b_X11_holds_179 | unfold b_X11_holds_204 | unfold b_X11_holds_205))
  · rw [nI_2] at a4
    rw [if_neg (by decide), if_neg (by decide), if_pos rfl]
    cases z with
    | false =>
      simp only [Bool.false_and, Bool.true_and, Bool.and_true, b01, cond_true, cond_false]
      unfold b_X11_holds_65; (repeat (first | with_reducible rfl | refine (bnd_eq (by first | with_reducible assumption | with_reducible exact gr_35_15 | with_reducible exact gr_35_7 | with_reducible exact gr_35_8 | with_reducible exact gr_35_4 | with_reducible exact gr_35_5 | with_reducible exact gr_35_9)).trans ?_ | refine (if_pos (by first | with_reducible assumption | with_reducible rfl | decide | (dsimp only; first | with_reducible assumption | with_reducible rfl | decide))).trans ?_ | refine (if_neg (by first | with_reducible assumption | decide | (dsimp only; first | with_reducible assumption | decide))).trans ?_ | unfold b_X11_holds_131 | unfold b_X11_holds_132 | unfold b_X11_holds_152 | unfold b_X11_holds_153 | unfold b_X11_holds_178 | unfold b_X11_holds_179 | unfold b_X11_holds_204 | unfold b_X11_holds_205))
    | true =>
      by_cases y : e_p e = l.2.2.1
      · have y' : nI (e_p e) = nI l.2.2.1 := congrArg nI y
        have : (e_p e == l.2.2.1) = true := by simp [y]
        rw [this]
        simp only [Bool.false_and, Bool.true_and, Bool.and_true, b01, cond_true, cond_false]
        unfold b_X11_holds_65; (repeat (first | with_reducible rfl | refine (bnd_eq (by first | with_reducible assumption | with_reducible exact gr_35_15 | with_reducible exact gr_35_7 | with_reducible exact gr_35_8 | with_reducible exact gr_35_4 | with_reducible exact gr_35_5 | with_reducible exact gr_35_9)).trans ?_ | refine (if_pos (by first | with_reducible assumption | with_reducible rfl | decide | (dsimp only; first | with_reducible assumption | with_reducible rfl | decide))).trans ?_ | refine (if_neg (by first | with_reducible assumption | decide | (dsimp only; first | with_reducible assumption | decide))).trans ?_ | unfold b_X11_holds_131 | unfold b_X11_holds_132 | unfold b_X11_holds_152 | unfold b_X11_holds_153 | unfold b_X11_holds_178 | unfold b_X11_holds_179 | unfold b_X11_holds_204 | unfold b_X11_holds_205))
      · have y' : ¬ nI (e_p e) = nI l.2.2.1 := fun z => y ((nI_eq (by omega) (by omega)).mp z)
        have : (e_p e == l.2.2.1) = false := by simp [y]
        rw [this]
        simp only [Bool.false_and, Bool.true_and, Bool.and_true, b01, cond_true, cond_false]
        unfold b_X11_holds_65; (repeat (first | with_reducible rfl | refine (bnd_eq (by first | with_reducible assumption | with_reducible exact gr_35_15 | with_reducible exact gr_35_7 | with_reducible exact gr_35_8 | with_reducible exact gr_35_4 | with_reducible exact gr_35_5 | with_reducible exact gr_35_9)).trans ?_ | refine (if_pos (by first | with_reducible assumption | with_reducible rfl | decide | (dsimp only; first | with_reducible assumption | with_reducible rfl | decide))).trans ?_ | refine (if_neg (by first | with_reducible assumption | decide | (dsimp only; first | with_reducible assumption | decide))).trans ?_ | unfold b_X11_holds_131 | unfold b_X11_holds_132 | unfold b_X11_holds_152 | unfold b_X11_holds_153 | unfold b_X11_holds_178 | unfold b_X11_holds_179 | unfold b_X11_holds_204 | unfold b_X11_holds_205))
  · rw [nI_3] at a4
    rw [if_neg (by decide), if_neg (by decide), if_neg (by decide), if_pos rfl, m7]
    cases z with
    | false =>
      simp only [Bool.false_and, Bool.true_and, Bool.and_true, b01, cond_true, cond_false]
      unfold b_X11_holds_65; (repeat (first | with_reducible rfl | refine (bnd_eq (by first | with_reducible assumption | with_reducible exact gr_35_15 | with_reducible exact gr_35_7 | with_reducible exact gr_35_8 | with_reducible exact gr_35_4 | with_reducible exact gr_35_5 | with_reducible exact gr_35_9)).trans ?_ | refine (if_pos (by first | with_reducible assumption | with_reducible rfl | decide | (dsimp only; first | with_reducible assumption | with_reducible rfl | decide))).trans ?_ | refine (if_neg (by first | with_reducible assumption | decide | (dsimp only; first | with_reducible assumption | decide))).trans ?_ | unfold b_X11_holds_131 | unfold b_X11_holds_132 | unfold b_X11_holds_152 | unfold b_X11_holds_153 | unfold b_X11_holds_178 | unfold b_X11_holds_179 | unfold b_X11_holds_204 | unfold b_X11_holds_205))
    | true =>
      by_cases y : o = e_p e
      · have y' : nI o = nI (e_p e) := congrArg nI y
        have : (o == e_p e) = true := by simp [y]
        rw [this]
        simp only [Bool.false_and, Bool.true_and, Bool.and_true, b01, cond_true, cond_false]
        unfold b_X11_holds_65; (repeat (first | with_reducible rfl | refine (bnd_eq (by first | with_reducible assumption | with_reducible exact gr_35_15 | with_reducible exact gr_35_7 | with_reducible exact gr_35_8 | with_reducible exact gr_35_4 | with_reducible exact gr_35_5 | with_reducible exact gr_35_9)).trans ?_ | refine (if_pos (by first | with_reducible assumption | with_reducible rfl | decide | (dsimp only; first | with_reducible assumption | with_reducible rfl | decide))).trans ?_ | refine (if_neg (by first | with_reducible assumption | decide | (dsimp only; first | with_reducible assumption | decide))).trans ?_ | unfold b_X11_holds_131 | unfold b_X11_holds_132 | unfold b_X11_holds_152 | unfold b_X11_holds_153 | unfold b_X11_holds_178 | unfold b_X11_holds_179 | unfold b_X11_holds_204 | unfold b_X11_holds_205))
      · have y' : ¬ nI o = nI (e_p e) := fun z => y ((nI_eq (by omega) (by omega)).mp z)
        have : (o == e_p e) = false := by simp [y]
        rw [this]
        simp only [Bool.false_and, Bool.true_and, Bool.and_true, b01, cond_true, cond_false]
        unfold b_X11_holds_65; (repeat (first | with_reducible rfl | refine (bnd_eq (by first | with_reducible assumption | with_reducible exact gr_35_15 | with_reducible exact gr_35_7 | with_reducible exact gr_35_8 | with_reducible exact gr_35_4 | with_reducible exact gr_35_5 | with_reducible exact gr_35_9)).trans ?_ | refine (if_pos (by first | with_reducible assumption | with_reducible rfl | decide | (dsimp only; first | with_reducible assumption | with_reducible rfl | decide))).trans ?_ | refine (if_neg (by first | with_reducible assumption | decide | (dsimp only; first | with_reducible assumption | decide))).trans ?_ | unfold b_X11_holds_131 | unfold b_X11_holds_132 | unfold b_X11_holds_152 | unfold b_X11_holds_153 | unfold b_X11_holds_178 | unfold b_X11_holds_179 | unfold b_X11_holds_204 | unfold b_X11_holds_205))
  · rw [nI_4] at a4
    rw [if_neg (by decide), if_neg (by decide), if_neg (by decide), if_neg (by decide)]
    cases z with
    | false =>
      simp only [Bool.false_and, Bool.true_and, Bool.and_true, b01, cond_true, cond_false]
      unfold b_X11_holds_65; (repeat (first | with_reducible rfl | refine (bnd_eq (by first | with_reducible assumption | with_reducible exact gr_35_15 | with_reducible exact gr_35_7 | with_reducible exact gr_35_8 | with_reducible exact gr_35_4 | with_reducible exact gr_35_5 | with_reducible exact gr_35_9)).trans ?_ | refine (if_pos (by first | with_reducible assumption | with_reducible rfl | decide | (dsimp only; first | with_reducible assumption | with_reducible rfl | decide))).trans ?_ | refine (if_neg (by first | with_reducible assumption | decide | (dsimp only; first | with_reducible assumption | decide))).trans ?_ | unfold b_X11_holds_131 | unfold b_X11_holds_132 | unfold b_X11_holds_152 | unfold b_X11_holds_153 | unfold b_X11_holds_178 | unfold b_X11_holds_179 | unfold b_X11_holds_204 | unfold b_X11_holds_205))
    | true =>
      by_cases y : l.2.2.1 ≤ e_c e
      · have y' : ¬ nI (e_c e) < nI l.2.2.1 := nI_nlt y (by omega)
        have : decide (l.2.2.1 ≤ e_c e) = true := by simp [y]
        rw [this]
        simp only [Bool.false_and, Bool.true_and, Bool.and_true, b01, cond_true, cond_false]
        unfold b_X11_holds_65; (repeat (first | with_reducible rfl | refine (bnd_eq (by first | with_reducible assumption | with_reducible exact gr_35_15 | with_reducible exact gr_35_7 | with_reducible exact gr_35_8 | with_reducible exact gr_35_4 | with_reducible exact gr_35_5 | with_reducible exact gr_35_9)).trans ?_ | refine (if_pos (by first | with_reducible assumption | with_reducible rfl | decide | (dsimp only; first | with_reducible assumption | with_reducible rfl | decide))).trans ?_ | refine (if_neg (by first | with_reducible assumption | decide | (dsimp only; first | with_reducible assumption | decide))).trans ?_ | unfold b_X11_holds_131 | unfold b_X11_holds_132 | unfold b_X11_holds_152 | unfold b_X11_holds_153 | unfold b_X11_holds_178 | unfold b_X11_holds_179 | unfold b_X11_holds_204 | unfold b_X11_holds_205))
      · have y' : nI (e_c e) < nI l.2.2.1 := nI_lt (by omega) (by omega)
        have : decide (l.2.2.1 ≤ e_c e) = false := by simp; omega
        rw [this]
        simp only [Bool.false_and, Bool.true_and, Bool.and_true, b01, cond_true, cond_false]
        unfold b_X11_holds_65; (repeat (first | with_reducible rfl | refine (bnd_eq (by first | with_reducible assumption | with_reducible exact gr_35_15 | with_reducible exact gr_35_7 | with_reducible exact gr_35_8 | with_reducible exact gr_35_4 | with_reducible exact gr_35_5 | with_reducible exact gr_35_9)).trans ?_ | refine (if_pos (by first | with_reducible assumption | with_reducible rfl | decide | (dsimp only; first | with_reducible assumption | with_reducible rfl | decide))).trans ?_ | refine (if_neg (by first | with_reducible assumption | decide | (dsimp only; first | with_reducible assumption | decide))).trans ?_ | unfold b_X11_holds_131 | unfold b_X11_holds_132 | unfold b_X11_holds_152 | unfold b_X11_holds_153 | unfold b_X11_holds_178 | unfold b_X11_holds_179 | unfold b_X11_holds_204 | unfold b_X11_holds_205))
theorem m_holds (N : Nat) (hN : 1820 ≤ N) {e : EV} {h s k : Nat} {l : LNV} (hs : s < 4) (hk : k < 12) (hh : h < 24) (me : MEv M e) (w : WEv e) (wl : WLn l) (hl : MLn M.2.2 s k l) : ∃ f, f_X11_holds N (hp X C M T) (some 35) (nI s) (nI k) (nI (e_p e)) (nI (e_a e)) (nI (e_t e)) (nI h) = some (b01 (hldB e h l), hp X C (mT M f) T) := by
  obtain ⟨f, hf⟩ := h_320 (X := X) (C := C) (T := T) N hN ((actB e l && whoB e l) && whatB e l) hs hk hh me w wl hl
  have t2 := h_210 (X := X) (C := C) (T := T) N (h := nI h) (actB e l && whoB e l) hs hk me w wl hl
  have t3 := h_65 (X := X) (C := C) (T := T) N (h := nI h) (actB e l) hs hk me w wl hl
  have t := t3.trans (t2.trans hf)
  obtain ⟨c1, c2, c3, c4, c5, c6, c7⟩ := hl
  obtain ⟨v1, v2, v3, v4, v5, v6, v7, v8, v9⟩ := wl
  obtain ⟨w1, w2, w3, w4, w5, w6, w7⟩ := w
  have e0 : (8 : Int32) * (12 * nI s + nI k) = nI (96 * s + 8 * k) := by rw [← nI_8, ← nI_12, pk_mul, nI_add, pk_mul]; congr 1; omega
  have e2 : nI (96 * s + 8 * k) + 2 = nI (96 * s + (8 * k + 2)) := by rw [← nI_2, nI_add, Nat.add_assoc]
  have e3 : nI (96 * s + 8 * k) + 3 = nI (96 * s + (8 * k + 3)) := by rw [← nI_3, nI_add, Nat.add_assoc]
  have e5 : nI (96 * s + 8 * k) + 5 = nI (96 * s + (8 * k + 5)) := by rw [← nI_5, nI_add, Nat.add_assoc]
  have b2 : 96 * s + (8 * k + 2) < 1536 := by omega
  have b3 : 96 * s + (8 * k + 3) < 1536 := by omega
  have b5 : 96 * s + (8 * k + 5) < 1536 := by omega
  have hv : hldB e h l = (((actB e l && whoB e l) && whatB e l) && whenB e h l.2.2.2.2.2.2) := by
    unfold hldB; cases actB e l <;> cases whoB e l <;> cases whatB e l <;> simp
  have a2 := ai_49 (X := X) (C := C) (M := M) (T := T) b2
  have a3 := ai_49 (X := X) (C := C) (M := M) (T := T) b3
  have a5 := ai_49 (X := X) (C := C) (M := M) (T := T) b5
  rw [← e2, c3] at a2
  rw [← e3, c4] at a3
  rw [← e5, c6] at a5
  refine ⟨f, ?_⟩
  rw [hv]
  have z : ∀ {bb : Bool} {AA : LH}, b_X11_holds N (hp X C M T) (some 35) (nI s) (nI k) (nI (e_p e)) (nI (e_a e)) (nI (e_t e)) (nI h) = some (b01 bb, AA) → f_X11_holds N (hp X C M T) (some 35) (nI s) (nI k) (nI (e_p e)) (nI (e_a e)) (nI (e_t e)) (nI h) = some (b01 bb, AA) := fun hh => by
    unfold f_X11_holds; rw [io_35, if_pos rfl, hh, zc_b]
  by_cases q : l.2.2.2.1 = 4
  · have ea : actB e l = true := by simp [actB, q]
    rw [ea] at t ⊢
    rw [q, nI_4] at a3
    have e1 : b01 true = 1 := rfl
    rw [e1] at t
    refine z (?_ : _ = _)
    unfold b_X11_holds; rw [e0]; (repeat (first | with_reducible rfl | refine (bnd_eq (by first | with_reducible assumption | with_reducible exact gr_35_15)).trans ?_ | refine (if_pos (by first | with_reducible assumption | with_reducible rfl | decide | (dsimp only; first | with_reducible assumption | with_reducible rfl | decide))).trans ?_ | refine (if_neg (by first | with_reducible assumption | decide | (dsimp only; first | with_reducible assumption | decide))).trans ?_ | unfold b_X11_holds_60))
    exact t
  · have q' : ¬ nI l.2.2.2.1 = 4 := fun z => q ((nI_eq (by omega) (by decide)).mp (z.trans nI_4.symm))
    by_cases y : l.2.2.2.1 = e_a e
    · have ea : actB e l = true := by simp [actB, y]
      have y' : nI l.2.2.2.1 = nI (e_a e) := congrArg nI y
      rw [ea] at t ⊢
      have e1 : b01 true = 1 := rfl
      rw [e1] at t
      refine z (?_ : _ = _)
      unfold b_X11_holds; rw [e0]; (repeat (first | with_reducible rfl | refine (bnd_eq (by first | with_reducible assumption | with_reducible exact gr_35_15)).trans ?_ | refine (if_pos (by first | with_reducible assumption | with_reducible rfl | decide | (dsimp only; first | with_reducible assumption | with_reducible rfl | decide))).trans ?_ | refine (if_neg (by first | with_reducible assumption | decide | (dsimp only; first | with_reducible assumption | decide))).trans ?_ | unfold b_X11_holds_60))
      exact t
    · have ea : actB e l = false := by simp [actB, q, y]
      have y' : ¬ nI l.2.2.2.1 = nI (e_a e) := fun z => y ((nI_eq (by omega) (by omega)).mp z)
      rw [ea] at t ⊢
      have e1 : b01 false = 0 := rfl
      rw [e1] at t
      refine z (?_ : _ = _)
      unfold b_X11_holds; rw [e0]; (repeat (first | with_reducible rfl | refine (bnd_eq (by first | with_reducible assumption | with_reducible exact gr_35_15)).trans ?_ | refine (if_pos (by first | with_reducible assumption | with_reducible rfl | decide | (dsimp only; first | with_reducible assumption | with_reducible rfl | decide))).trans ?_ | refine (if_neg (by first | with_reducible assumption | decide | (dsimp only; first | with_reducible assumption | decide))).trans ?_ | unfold b_X11_holds_60))
      exact t
/-- lets, with what is TURNED -/
def ltM (ls : List LNV) (tu : Int32) (k : Nat) : Bool := letB ls k ^^ bt tu k
theorem m_lets {s k : Nat} {r : RSV} (hs : s < 4) (hk : k < r.2.length) (hk12 : k < 12) (hr : MRs M s r) (hw : ∀ l ∈ r.2, l.1 < 2) : f_X11_lets (hp X C M T) (some 35) (nI s) (nI k) = some (b01 (ltM r.2 (M.1 40) k)) := by
  obtain ⟨l, hl⟩ := at_ex r.2 hk
  have hl2 := hw l (List.mem_of_getElem? hl)
  have c1 := (hr.2.2 k l hl).1
  have e0 : (8 : Int32) * (12 * nI s + nI k) = nI (96 * s + 8 * k) := by rw [← nI_8, ← nI_12, pk_mul, nI_add, pk_mul]; congr 1; omega
  have b0 : 96 * s + 8 * k < 1536 := by omega
  have sb := sbit (M.1 40) (n := k) (by omega)
  have lb : letB r.2 k = (l.1 == 1) := by unfold letB; rw [hl]
  have a1 := ai_49 (X := X) (C := C) (M := M) (T := T) b0
  rw [c1] at a1
  have zz : ∀ {bb : Bool}, b_X11_lets (hp X C M T) (some 35) (nI s) (nI k) = some (b01 bb) → f_X11_lets (hp X C M T) (some 35) (nI s) (nI k) = some (b01 bb) := fun hh => by
    unfold f_X11_lets; rw [io_35, if_pos rfl, hh, zd_b]
  unfold ltM
  rw [lb]
  rcases (show l.1 = 0 ∨ l.1 = 1 by omega) with q | q <;> rw [q] at a1 ⊢ <;> cases y : bt (M.1 40) k
  · rw [nI_0] at a1
    have y' := sb.mpr y
    rw [← e0] at a1
    refine zz (?_ : _ = some _)
    unfold b_X11_lets; (repeat (first | with_reducible rfl | refine (bnd_eq (by first | with_reducible assumption | with_reducible exact gr_35_15 | with_reducible exact gi_35_40)).trans ?_ | refine (if_pos (by first | with_reducible assumption | with_reducible rfl | decide | (dsimp only; first | with_reducible assumption | with_reducible rfl | decide))).trans ?_ | refine (if_neg (by first | with_reducible assumption | decide | (dsimp only; first | with_reducible assumption | decide))).trans ?_ | unfold b_X11_lets_23 | unfold b_X11_lets_39)); rfl
  · rw [nI_0] at a1
    have y' : ¬ _ := fun z => by rw [sb.mp z] at y; cases y
    rw [← e0] at a1
    refine zz (?_ : _ = some _)
    unfold b_X11_lets; (repeat (first | with_reducible rfl | refine (bnd_eq (by first | with_reducible assumption | with_reducible exact gr_35_15 | with_reducible exact gi_35_40)).trans ?_ | refine (if_pos (by first | with_reducible assumption | with_reducible rfl | decide | (dsimp only; first | with_reducible assumption | with_reducible rfl | decide))).trans ?_ | refine (if_neg (by first | with_reducible assumption | decide | (dsimp only; first | with_reducible assumption | decide))).trans ?_ | unfold b_X11_lets_23 | unfold b_X11_lets_39)); rfl
  · rw [nI_1'] at a1
    have y' := sb.mpr y
    rw [← e0] at a1
    refine zz (?_ : _ = some _)
    unfold b_X11_lets; (repeat (first | with_reducible rfl | refine (bnd_eq (by first | with_reducible assumption | with_reducible exact gr_35_15 | with_reducible exact gi_35_40)).trans ?_ | refine (if_pos (by first | with_reducible assumption | with_reducible rfl | decide | (dsimp only; first | with_reducible assumption | with_reducible rfl | decide))).trans ?_ | refine (if_neg (by first | with_reducible assumption | decide | (dsimp only; first | with_reducible assumption | decide))).trans ?_ | unfold b_X11_lets_23 | unfold b_X11_lets_39)); rfl
  · rw [nI_1'] at a1
    have y' : ¬ _ := fun z => by rw [sb.mp z] at y; cases y
    rw [← e0] at a1
    refine zz (?_ : _ = some _)
    unfold b_X11_lets; (repeat (first | with_reducible rfl | refine (bnd_eq (by first | with_reducible assumption | with_reducible exact gr_35_15 | with_reducible exact gi_35_40)).trans ?_ | refine (if_pos (by first | with_reducible assumption | with_reducible rfl | decide | (dsimp only; first | with_reducible assumption | with_reducible rfl | decide))).trans ?_ | refine (if_neg (by first | with_reducible assumption | decide | (dsimp only; first | with_reducible assumption | decide))).trans ?_ | unfold b_X11_lets_23 | unfold b_X11_lets_39)); rfl
end DEC
