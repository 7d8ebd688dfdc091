/-! the LINE that decides, walked on both sides -/
section DCD
section AB
variable {A A1 : LH} {q q13 q14 : Option Nat} {v1 v2 v3 v4 v5 v6 v7 n o w : Int32}
theorem ds_end (N m : Nat) (h1 : gR A q 11 14 = some q14) (h2 : aI A q14 0 v1 = some n) (h3 : n ≤ v7) : l_X11_decider_6 N (m + 1) A q v1 v2 v3 v4 v5 v6 v7 = some (v6, A) := by
  show b_X11_decider_6 N _ A q v1 v2 v3 v4 v5 v6 v7 = _
  unfold b_X11_decider_6
  (repeat (first | with_reducible rfl | refine (bnd_eq (by first | with_reducible assumption)).trans ?_ | refine (if_pos (by first | with_reducible assumption | with_reducible rfl | decide | (dsimp only; first | with_reducible assumption | with_reducible rfl | decide))).trans ?_ | refine (if_neg (by first | with_reducible assumption | decide | (dsimp only; first | with_reducible assumption | decide))).trans ?_))
theorem ds_out (N m : Nat) (h1 : gR A q 11 14 = some q14) (h2 : aI A q14 0 v1 = some n) (h3 : ¬ n ≤ v7) (h4 : gI A q 11 39 = some o) (h5 : ¬ (o >>> (v7 &&& 31)) &&& 1 = 0) : l_X11_decider_6 N (m + 1) A q v1 v2 v3 v4 v5 v6 v7 = l_X11_decider_6 N m A q v1 v2 v3 v4 v5 v6 (v7 + 1) := by
  show b_X11_decider_6 N _ A q v1 v2 v3 v4 v5 v6 v7 = _
  unfold b_X11_decider_6
  (repeat (first | with_reducible rfl | refine (bnd_eq (by first | with_reducible assumption)).trans ?_ | refine (if_pos (by first | with_reducible assumption | with_reducible rfl | decide | (dsimp only; first | with_reducible assumption | with_reducible rfl | decide))).trans ?_ | refine (if_neg (by first | with_reducible assumption | decide | (dsimp only; first | with_reducible assumption | decide))).trans ?_))
theorem ds_no (N m : Nat) (h1 : gR A q 11 14 = some q14) (h2 : aI A q14 0 v1 = some n) (h3 : ¬ n ≤ v7) (h4 : gI A q 11 39 = some o) (h5 : (o >>> (v7 &&& 31)) &&& 1 = 0) (h6 : f_X11_holds N A q v1 v7 v2 v3 v4 v5 = some (0, A1)) : l_X11_decider_6 N (m + 1) A q v1 v2 v3 v4 v5 v6 v7 = l_X11_decider_6 N m A1 q v1 v2 v3 v4 v5 v6 (v7 + 1) := by
  show b_X11_decider_6 N _ A q v1 v2 v3 v4 v5 v6 v7 = _
  unfold b_X11_decider_6
  (repeat (first | with_reducible rfl | refine (bnd_eq (by first | with_reducible assumption)).trans ?_ | refine (if_pos (by first | with_reducible assumption | with_reducible rfl | decide | (dsimp only; first | with_reducible assumption | with_reducible rfl | decide))).trans ?_ | refine (if_neg (by first | with_reducible assumption | decide | (dsimp only; first | with_reducible assumption | decide))).trans ?_))
theorem ds_0 (N m : Nat) (h1 : gR A q 11 14 = some q14) (h2 : aI A q14 0 v1 = some n) (h3 : ¬ n ≤ v7) (h4 : gI A q 11 39 = some o) (h5 : (o >>> (v7 &&& 31)) &&& 1 = 0) (h6 : f_X11_holds N A q v1 v7 v2 v3 v4 v5 = some (1, A1)) (h7 : gR A1 q 11 13 = some q13) (h8 : aI A1 q13 0 v1 = some 0) : l_X11_decider_6 N (m + 1) A q v1 v2 v3 v4 v5 v6 v7 = some (v7, A1) := by
  show b_X11_decider_6 N _ A q v1 v2 v3 v4 v5 v6 v7 = _
  unfold b_X11_decider_6
  (repeat (first | with_reducible rfl | refine (bnd_eq (by first | with_reducible assumption)).trans ?_ | refine (if_pos (by first | with_reducible assumption | with_reducible rfl | decide | (dsimp only; first | with_reducible assumption | with_reducible rfl | decide))).trans ?_ | refine (if_neg (by first | with_reducible assumption | decide | (dsimp only; first | with_reducible assumption | decide))).trans ?_))
theorem ds_1 (N m : Nat) (h1 : gR A q 11 14 = some q14) (h2 : aI A q14 0 v1 = some n) (h3 : ¬ n ≤ v7) (h4 : gI A q 11 39 = some o) (h5 : (o >>> (v7 &&& 31)) &&& 1 = 0) (h6 : f_X11_holds N A q v1 v7 v2 v3 v4 v5 = some (1, A1)) (h7 : gR A1 q 11 13 = some q13) (h8 : aI A1 q13 0 v1 = some 1) : l_X11_decider_6 N (m + 1) A q v1 v2 v3 v4 v5 v6 v7 = l_X11_decider_6 N m A1 q v1 v2 v3 v4 v5 v7 (v7 + 1) := by
  show b_X11_decider_6 N _ A q v1 v2 v3 v4 v5 v6 v7 = _
  unfold b_X11_decider_6
  (repeat (first | with_reducible rfl | refine (bnd_eq (by first | with_reducible assumption)).trans ?_ | refine (if_pos (by first | with_reducible assumption | with_reducible rfl | decide | (dsimp only; first | with_reducible assumption | with_reducible rfl | decide))).trans ?_ | refine (if_neg (by first | with_reducible assumption | decide | (dsimp only; first | with_reducible assumption | decide))).trans ?_))
theorem ds_2n (N m : Nat) (h1 : gR A q 11 14 = some q14) (h2 : aI A q14 0 v1 = some n) (h3 : ¬ n ≤ v7) (h4 : gI A q 11 39 = some o) (h5 : (o >>> (v7 &&& 31)) &&& 1 = 0) (h6 : f_X11_holds N A q v1 v7 v2 v3 v4 v5 = some (1, A1)) (h7 : gR A1 q 11 13 = some q13) (h8 : aI A1 q13 0 v1 = some w) (h9 : ¬ w = 0) (h10 : ¬ w = 1) (h11 : v6 = -1) : l_X11_decider_6 N (m + 1) A q v1 v2 v3 v4 v5 v6 v7 = l_X11_decider_6 N m A1 q v1 v2 v3 v4 v5 v7 (v7 + 1) := by
  show b_X11_decider_6 N _ A q v1 v2 v3 v4 v5 v6 v7 = _
  unfold b_X11_decider_6
  (repeat (first | with_reducible rfl | refine (bnd_eq (by first | with_reducible assumption)).trans ?_ | refine (if_pos (by first | with_reducible assumption | with_reducible rfl | decide | (dsimp only; first | with_reducible assumption | with_reducible rfl | decide))).trans ?_ | refine (if_neg (by first | with_reducible assumption | decide | (dsimp only; first | with_reducible assumption | decide))).trans ?_))
theorem ds_130 (N : Nat) (k : LH → Option Nat → Int32 → Int32 → Int32 → Int32 → Int32 → Int32 → Int32 → Option (Int32 × LH)) (x y : Bool) : b_X11_decider_130 N k A q v1 v2 v3 v4 v5 v6 v7 (b01 x) (b01 y) = k A q v1 v2 v3 v4 v5 (if y = x then v6 else v7) (v7 + 1) := by
  unfold b_X11_decider_130
  cases x <;> cases y <;> first | exact if_pos rfl | exact if_neg (by decide)
theorem ds_2 (N m : Nat) (h1 : gR A q 11 14 = some q14) (h2 : aI A q14 0 v1 = some n) (h3 : ¬ n ≤ v7) (h4 : gI A q 11 39 = some o) (h5 : (o >>> (v7 &&& 31)) &&& 1 = 0) (h6 : f_X11_holds N A q v1 v7 v2 v3 v4 v5 = some (1, A1)) (h7 : gR A1 q 11 13 = some q13) (h8 : aI A1 q13 0 v1 = some w) (h9 : ¬ w = 0) (h10 : ¬ w = 1) (h11 : ¬ v6 = -1) {x y c : Bool} (h12 : f_X11_lets A1 q v1 v7 = some (b01 x)) (h13 : f_X11_lets A1 q v1 v6 = some (b01 y)) (hc : c = true ↔ w = 3) :
    l_X11_decider_6 N (m + 1) A q v1 v2 v3 v4 v5 v6 v7 = l_X11_decider_6 N m A1 q v1 v2 v3 v4 v5 (if x = c ∧ ¬ y = c then v7 else v6) (v7 + 1) := by
  have key : ∀ (c : Bool), (c = true ↔ w = 3) → b_X11_decider_105 N (l_X11_decider_6 N m) A1 q v1 v2 v3 v4 v5 v6 v7 (b01 c) (b01 x) = l_X11_decider_6 N m A1 q v1 v2 v3 v4 v5 (if x = c ∧ ¬ y = c then v7 else v6) (v7 + 1) := by
    intro c hc
    unfold b_X11_decider_105
    by_cases hx : x = c
    · subst hx
      refine (if_pos rfl).trans ?_
      refine (bnd_eq h13).trans ?_
      refine (bnd_eq h7).trans ?_
      refine (bnd_eq h8).trans ?_
      cases x with
      | true =>
        refine (if_pos (hc.mp rfl)).trans ?_
        refine (ds_130 N _ true y).trans ?_
        cases y <;> rfl
      | false =>
        refine (if_neg (fun z => Bool.noConfusion (hc.mpr z))).trans ?_
        refine (ds_130 N _ false y).trans ?_
        cases y <;> rfl
    · refine (if_neg (fun z => hx ?_)).trans ?_
      · cases x <;> cases c <;> first | rfl | exact absurd z (by decide)
      · rw [if_neg (fun z => hx z.1)]
  show b_X11_decider_6 N _ A q v1 v2 v3 v4 v5 v6 v7 = _
  unfold b_X11_decider_6
  cases c with
  | true =>
    have hw := hc.mp rfl
    (repeat (first | with_reducible rfl | refine (bnd_eq (by first | with_reducible assumption)).trans ?_ | refine (if_pos (by first | with_reducible assumption | with_reducible rfl | decide | (dsimp only; first | with_reducible assumption | with_reducible rfl | decide))).trans ?_ | refine (if_neg (by first | with_reducible assumption | decide | (dsimp only; first | with_reducible assumption | decide))).trans ?_))
    exact key true hc
  | false =>
    have hw : ¬ w = 3 := fun z => Bool.noConfusion (hc.mpr z)
    (repeat (first | with_reducible rfl | refine (bnd_eq (by first | with_reducible assumption)).trans ?_ | refine (if_pos (by first | with_reducible assumption | with_reducible rfl | decide | (dsimp only; first | with_reducible assumption | with_reducible rfl | decide))).trans ?_ | refine (if_neg (by first | with_reducible assumption | decide | (dsimp only; first | with_reducible assumption | decide))).trans ?_))
    exact key false hc
end AB
section CB
variable {A A1 : LH} {q r qo p : Option Nat} {i n x h v : Int32}
theorem kd_end (N m : Nat) (h1 : gR A r 3 2 = some qo) (h2 : ln6 A qo = some n) (h3 : n ≤ i) : l_X9_decider_2 N (m + 1) A q r i = some (-1, A) := by
  show b_X9_decider_2 N _ A q r i = _
  unfold b_X9_decider_2
  (repeat (first | with_reducible rfl | refine (bnd_eq (by first | with_reducible assumption)).trans ?_ | refine (if_pos (by first | with_reducible assumption | with_reducible rfl | decide | (dsimp only; first | with_reducible assumption | with_reducible rfl | decide))).trans ?_ | refine (if_neg (by first | with_reducible assumption | decide | (dsimp only; first | with_reducible assumption | decide))).trans ?_))
theorem kd_no (N m : Nat) (h1 : gR A r 3 2 = some qo) (h2 : ln6 A qo = some n) (h3 : ¬ n ≤ i) (h4 : aI A qo 0 i = some x) (h5 : f_X3_lineAt A r x = some p) (h6 : f_X9_hoursHeld N A q p = some (v, A1)) (h7 : gI A1 q 9 5 = some h) (h8 : f_X10_hasBit v h = some 0) : l_X9_decider_2 N (m + 1) A q r i = l_X9_decider_2 N m A1 q r (i + 1) := by
  show b_X9_decider_2 N _ A q r i = _
  unfold b_X9_decider_2
  (repeat (first | with_reducible rfl | refine (bnd_eq (by first | with_reducible assumption)).trans ?_ | refine (if_pos (by first | with_reducible assumption | with_reducible rfl | decide | (dsimp only; first | with_reducible assumption | with_reducible rfl | decide))).trans ?_ | refine (if_neg (by first | with_reducible assumption | decide | (dsimp only; first | with_reducible assumption | decide))).trans ?_))
theorem kd_yes (N m : Nat) (h1 : gR A r 3 2 = some qo) (h2 : ln6 A qo = some n) (h3 : ¬ n ≤ i) (h4 : aI A qo 0 i = some x) (h5 : f_X3_lineAt A r x = some p) (h6 : f_X9_hoursHeld N A q p = some (v, A1)) (h7 : gI A1 q 9 5 = some h) (h8 : f_X10_hasBit v h = some 1) (h9 : gR A1 r 3 2 = some qo) (h10 : aI A1 qo 0 i = some x) : l_X9_decider_2 N (m + 1) A q r i = some (x, A1) := by
  show b_X9_decider_2 N _ A q r i = _
  unfold b_X9_decider_2
  (repeat (first | with_reducible rfl | refine (bnd_eq (by first | with_reducible assumption)).trans ?_ | refine (if_pos (by first | with_reducible assumption | with_reducible rfl | decide | (dsimp only; first | with_reducible assumption | with_reducible rfl | decide))).trans ?_ | refine (if_neg (by first | with_reducible assumption | decide | (dsimp only; first | with_reducible assumption | decide))).trans ?_))
theorem kl_none (N : Nat) (h0 : isO A q 9 = true) (h1 : f_X9_decider N A q r = some (x, A1)) (h2 : f_X3_lineAt A1 r x = some none) : f_X9_lets N A q r = some (0, A1) := by
  unfold f_X9_lets
  rw [if_pos h0, show b_X9_lets N A q r = some (0, A1) by unfold b_X9_lets; (repeat (first | with_reducible rfl | refine (bnd_eq (by first | with_reducible assumption)).trans ?_ | refine (if_pos (by first | with_reducible assumption | with_reducible rfl | decide | (dsimp only; first | with_reducible assumption | with_reducible rfl | decide))).trans ?_ | refine (if_neg (by first | with_reducible assumption | decide | (dsimp only; first | with_reducible assumption | decide))).trans ?_))]
  rfl
theorem kl_some (N : Nat) {pp : Nat} (h0 : isO A q 9 = true) (h1 : f_X9_decider N A q r = some (x, A1)) (h2 : f_X3_lineAt A1 r x = some (some pp)) (b : Bool) (h3 : gI A1 (some pp) 0 0 = some (b01 b)) : f_X9_lets N A q r = some (b01 b, A1) := by
  unfold f_X9_lets
  have hne : ¬ some pp = none := fun z => nomatch z
  rw [if_pos h0, show b_X9_lets N A q r = some (b01 b, A1) by
    unfold b_X9_lets
    cases b with
    | true =>
      have h3' : gI A1 (some pp) 0 0 = some 1 := h3
      show _ = some ((1 : Int32), A1)
      (repeat (first | with_reducible rfl | refine (bnd_eq (by first | with_reducible assumption)).trans ?_ | refine (if_pos (by first | with_reducible assumption | with_reducible rfl | decide | (dsimp only; first | with_reducible assumption | with_reducible rfl | decide))).trans ?_ | refine (if_neg (by first | with_reducible assumption | decide | (dsimp only; first | with_reducible assumption | decide))).trans ?_))
    | false =>
      have h3' : gI A1 (some pp) 0 0 = some 0 := h3
      show _ = some ((0 : Int32), A1)
      (repeat (first | with_reducible rfl | refine (bnd_eq (by first | with_reducible assumption)).trans ?_ | refine (if_pos (by first | with_reducible assumption | with_reducible rfl | decide | (dsimp only; first | with_reducible assumption | with_reducible rfl | decide))).trans ?_ | refine (if_neg (by first | with_reducible assumption | decide | (dsimp only; first | with_reducible assumption | decide))).trans ?_))]
  exact zc_b b A1
end CB
section MB
variable {A A1 : LH} {q : Option Nat} {v1 v2 v3 v4 v5 x : Int32}
theorem ml_none (N : Nat) (h0 : isO A q 11 = true) (h1 : f_X11_decider N A q v1 v2 v3 v4 v5 = some (-1, A1)) : f_X11_isLet N A q v1 v2 v3 v4 v5 = some (0, A1) := by
  unfold f_X11_isLet
  rw [if_pos h0, show b_X11_isLet N A q v1 v2 v3 v4 v5 = some (0, A1) by unfold b_X11_isLet; (repeat (first | with_reducible rfl | refine (bnd_eq (by first | with_reducible assumption)).trans ?_ | refine (if_pos (by first | with_reducible assumption | with_reducible rfl | decide | (dsimp only; first | with_reducible assumption | with_reducible rfl | decide))).trans ?_ | refine (if_neg (by first | with_reducible assumption | decide | (dsimp only; first | with_reducible assumption | decide))).trans ?_))]
  rfl
theorem ml_some (N : Nat) (h0 : isO A q 11 = true) (h1 : f_X11_decider N A q v1 v2 v3 v4 v5 = some (x, A1)) (hx : ¬ x = -1) (b : Bool) (h2 : f_X11_lets A1 q v1 x = some (b01 b)) : f_X11_isLet N A q v1 v2 v3 v4 v5 = some (b01 b, A1) := by
  unfold f_X11_isLet
  rw [if_pos h0, show b_X11_isLet N A q v1 v2 v3 v4 v5 = some (b01 b, A1) by
    unfold b_X11_isLet
    cases b with
    | true =>
      have h3' : f_X11_lets A1 q v1 x = some 1 := h2
      show _ = some ((1 : Int32), A1)
      (repeat (first | with_reducible rfl | refine (bnd_eq (by first | with_reducible assumption)).trans ?_ | refine (if_pos (by first | with_reducible assumption | with_reducible rfl | decide | (dsimp only; first | with_reducible assumption | with_reducible rfl | decide))).trans ?_ | refine (if_neg (by first | with_reducible assumption | decide | (dsimp only; first | with_reducible assumption | decide))).trans ?_))
    | false =>
      have h3' : f_X11_lets A1 q v1 x = some 0 := h2
      show _ = some ((0 : Int32), A1)
      (repeat (first | with_reducible rfl | refine (bnd_eq (by first | with_reducible assumption)).trans ?_ | refine (if_pos (by first | with_reducible assumption | with_reducible rfl | decide | (dsimp only; first | with_reducible assumption | with_reducible rfl | decide))).trans ?_ | refine (if_neg (by first | with_reducible assumption | decide | (dsimp only; first | with_reducible assumption | decide))).trans ?_))]
  exact zc_b b A1
end MB
variable {X : XS} {C : CS} {M : MS} {T : TS} {S : SG} {K : Nat} {mu : List Nat}
theorem oI_ne {k : Nat} (h : k < 2 ^ 31) : ¬ oI (some k) = -1 := fun z => nI_pos h (by rw [show nI k = -1 from z]; decide)
/-- which LINES HOLD and are not left out -/
def hM (e : EV) (h : Nat) (ls : List LNV) (ou : Int32) (k : Nat) : Bool := !(bt ou k) && hB e h ls k
theorem m_decL (N : Nat) (hN : 1820 ≤ N) {e : EV} {h s : Nat} {r : RSV} (hs : s < 4) (hh : h < 24) (me : MEv M e) (w : WEv e) (wr : WRs r) (hr : MRs M s r) :
    ∀ (d m i : Nat) (f : Nat → Int32), r.2.length = i + d → d < m → (r.1 = 0 → decP 0 i (hM e h r.2 (M.1 39)) (ltM r.2 (M.1 40)) = none) →
    ∃ f', l_X11_decider_6 N m (hp X C (mT M f) T) (some 35) (nI s) (nI (e_p e)) (nI (e_a e)) (nI (e_t e)) (nI h) (oI (decP r.1 i (hM e h r.2 (M.1 39)) (ltM r.2 (M.1 40)))) (nI i) = some (oI (decP r.1 r.2.length (hM e h r.2 (M.1 39)) (ltM r.2 (M.1 40))), hp X C (mT M f') T) := by
  obtain ⟨w1, w2, w3⟩ := wr
  have a14 : ∀ f, aI (hp X C (mT M f) T) (some 48) 0 (nI s) = some (nI r.2.length) := fun f => by rw [ai_48 (by omega), mT_n (by decide), hr.2.1]
  have a13 : ∀ f, aI (hp X C (mT M f) T) (some 47) 0 (nI s) = some (nI r.1) := fun f => by rw [ai_47 (by omega), mT_n (by decide), hr.1]
  have hw2 : ∀ l ∈ r.2, l.1 < 2 := fun l hl => (w3 l hl).1
  intro d
  induction d with
  | zero =>
    intro m i f h1 h2 h3
    obtain ⟨m, rfl⟩ : ∃ k, m = k + 1 := ⟨m - 1, by omega⟩
    refine ⟨f, ?_⟩
    rw [show r.2.length = i by omega]
    exact ds_end N m gr_35_14 (by rw [a14, h1]) (nI_le (by omega) (by omega))
  | succ d ih =>
    intro m i f h1 h2 h3
    obtain ⟨m, rfl⟩ : ∃ k, m = k + 1 := ⟨m - 1, by omega⟩
    have hlt : ¬ nI r.2.length ≤ nI i := nI_ge (by omega) (by omega)
    obtain ⟨l, hl⟩ := at_ex r.2 (show i < r.2.length by omega)
    have hB' : hB e h r.2 i = hldB e h l := by unfold hB; rw [hl]
    have g39 : gI (hp X C (mT M f) T) (some 35) 11 39 = some (M.1 39) := gi_35_39
    cases ho : bt (M.1 39) i with
    | true =>
      have hH : hM e h r.2 (M.1 39) i = false := by unfold hM; rw [ho]; rfl
      obtain ⟨f', hf'⟩ := ih m (i + 1) f (by omega) (by omega) (fun z => by rw [decP_no hH]; exact h3 z)
      rw [decP_no hH] at hf'
      refine ⟨f', ?_⟩
      rw [ds_out N m gr_35_14 (a14 f) hlt g39 (fun z => by rw [(sbit (M.1 39) (by omega)).mp z] at ho; cases ho), nI_1]
      exact hf'
    | false =>
      have ho' := (sbit (M.1 39) (n := i) (by omega)).mpr ho
      obtain ⟨f1, hf1⟩ := m_holds (X := X) (C := C) (T := T) (M := mT M f) N hN hs (show i < 12 by omega) hh me.mT w (w3 l (List.mem_of_getElem? hl)) (hr.2.2 i l hl).mT
      rw [mT_mT] at hf1
      have hHe : hM e h r.2 (M.1 39) i = hldB e h l := by unfold hM; rw [ho, hB']; rfl
      cases hd : hldB e h l with
      | false =>
        rw [hd] at hf1
        have hH : hM e h r.2 (M.1 39) i = false := hHe.trans hd
        obtain ⟨f', hf'⟩ := ih m (i + 1) f1 (by omega) (by omega) (fun z => by rw [decP_no hH]; exact h3 z)
        rw [decP_no hH] at hf'
        refine ⟨f', ?_⟩
        rw [ds_no N m gr_35_14 (a14 f) hlt g39 ho' hf1, nI_1]
        exact hf'
      | true =>
        rw [hd] at hf1
        have hH : hM e h r.2 (M.1 39) i = true := hHe.trans hd
        rcases (show r.1 = 0 ∨ r.1 = 1 ∨ 2 ≤ r.1 by omega) with q | q | q
        · refine ⟨f1, ?_⟩
          have a13' := a13 f1
          rw [q, nI_0] at a13'
          rw [q, decP_0 (m := r.2.length) (h3 q) hH (by omega)]
          exact ds_0 N m gr_35_14 (a14 f) hlt g39 ho' hf1 gr_35_13 a13'
        · have a13' := a13 f1
          rw [q, nI_1'] at a13'
          obtain ⟨f', hf'⟩ := ih m (i + 1) f1 (by omega) (by omega) (fun z => by omega)
          refine ⟨f', ?_⟩
          rw [q] at hf' ⊢
          rw [decP_1 hH] at hf'
          rw [ds_1 N m gr_35_14 (a14 f) hlt g39 ho' hf1 gr_35_13 a13', nI_1]
          exact hf'
        · have w0 : ¬ nI r.1 = 0 := nI_ne0 (by omega) (by omega)
          have w1' : ¬ nI r.1 = 1 := fun z => by
            have := (nI_eq (a := r.1) (b := 1) (by omega) (by omega)).mp (z.trans nI_1'.symm)
            omega
          obtain ⟨f', hf'⟩ := ih m (i + 1) f1 (by omega) (by omega) (fun z => by omega)
          refine ⟨f', ?_⟩
          rw [decP_2 q hH] at hf'
          cases hq : decP r.1 i (hM e h r.2 (M.1 39)) (ltM r.2 (M.1 40)) with
          | none =>
            rw [hq] at hf'
            rw [show oI none = -1 from rfl, ds_2n N m gr_35_14 (a14 f) hlt g39 ho' hf1 gr_35_13 (a13 f1) w0 w1' rfl, nI_1]
            exact hf'
          | some k =>
            have hk := decP_lt hq
            rw [hq] at hf'
            have l1 := m_lets (X := X) (C := C) (T := T) (M := mT M f1) (s := s) (k := i) (r := r) hs (by omega) (by omega) hr.mT hw2
            have l2 := m_lets (X := X) (C := C) (T := T) (M := mT M f1) (s := s) (k := k) (r := r) hs (by omega) (by omega) hr.mT hw2
            rw [ds_2 N m gr_35_14 (a14 f) hlt g39 ho' hf1 gr_35_13 (a13 f1) w0 w1' (oI_ne (by omega)) (c := (r.1 == 3)) l1 l2 (by
              rw [beq_iff_eq]
              constructor
              · intro z; rw [z]; decide
              · intro z; exact (nI_eq (a := r.1) (b := 3) (by omega) (by omega)).mp (z.trans nI_3.symm)), nI_1]
            have e1 : oI (if ltM r.2 (M.1 40) i = (r.1 == 3) ∧ ¬ ltM r.2 (M.1 40) k = (r.1 == 3) then some i else some k) = (if ltM r.2 (M.1 40) i = (r.1 == 3) ∧ ¬ ltM r.2 (M.1 40) k = (r.1 == 3) then nI i else nI k) := by split <;> rfl
            exact (congrArg (fun z => l_X11_decider_6 N m (hp X C (mT M f1) T) (some 35) (nI s) (nI (e_p e)) (nI (e_a e)) (nI (e_t e)) (nI h) z (nI (i + 1))) e1.symm).trans hf'
theorem m_dec (N : Nat) (hN : 1820 ≤ N) {e : EV} {h s : Nat} {r : RSV} (hs : s < 4) (hh : h < 24) (me : MEv M e) (w : WEv e) (wr : WRs r) (hr : MRs M s r) : ∃ f, f_X11_decider N (hp X C M T) (some 35) (nI s) (nI (e_p e)) (nI (e_a e)) (nI (e_t e)) (nI h) = some (oI (decP r.1 r.2.length (hM e h r.2 (M.1 39)) (ltM r.2 (M.1 40))), hp X C (mT M f) T) := by
  have z0 : decP r.1 0 (hM e h r.2 (M.1 39)) (ltM r.2 (M.1 40)) = none := by unfold decP; simp
  have := wr.2.1
  obtain ⟨f, hf⟩ := m_decL (X := X) (C := C) (T := T) N hN hs hh me w wr hr r.2.length N 0 (M.2.2 38) (by omega) (by omega) (fun z => by have := z0; rw [z] at this; exact this)
  rw [z0, mT_id, nI_0] at hf
  refine ⟨f, ?_⟩
  unfold f_X11_decider b_X11_decider
  rw [io_35, if_pos rfl]
  exact hf
theorem m_isLet (N : Nat) (hN : 1820 ≤ N) {e : EV} {h s : Nat} {r : RSV} (hs : s < 4) (hh : h < 24) (me : MEv M e) (w : WEv e) (wr : WRs r) (hr : MRs M s r) : ∃ f, f_X11_isLet N (hp X C M T) (some 35) (nI s) (nI (e_p e)) (nI (e_a e)) (nI (e_t e)) (nI h) = some (b01 (letP r.1 r.2.length (hM e h r.2 (M.1 39)) (ltM r.2 (M.1 40))), hp X C (mT M f) T) := by
  obtain ⟨f, hf⟩ := m_dec (X := X) (C := C) (T := T) N hN hs hh me w wr hr
  have := wr.2.1
  refine ⟨f, ?_⟩
  unfold letP
  cases hq : decP r.1 r.2.length (hM e h r.2 (M.1 39)) (ltM r.2 (M.1 40)) with
  | none =>
    rw [hq] at hf
    exact ml_none N io_35 hf
  | some k =>
    rw [hq] at hf
    have hk := decP_lt hq
    exact ml_some N io_35 hf (oI_ne (by omega)) _ (m_lets (M := mT M f) (r := r) hs hk.1 (by omega) hr.mT (fun l hl => (wr.2.2 l hl).1))
theorem ordR_len {how : Nat} {ls : List LNV} (hl : ∀ l ∈ ls, l.1 < 2) : (ordR (how, ls)).length = ls.length := by
  have := fil_part (letB ls) (List.range ls.length)
  obtain ⟨o1, o2⟩ := ord_let ls hl
  rw [o1, o2, List.length_range] at this
  unfold ordR
  split
  · simp
  · split
    · simp
    · split
      · show (ordL ls 0 ++ ordL ls 1).length = _
        rw [List.length_append]; omega
      · show (ordL ls 1 ++ ordL ls 0).length = _
        rw [List.length_append]; omega
theorem ordR_mem {how k : Nat} {ls : List LNV} (h : k ∈ ordR (how, ls)) : k < ls.length := by
  have key : ∀ b, k ∈ ordL ls b → k < ls.length := fun b hk => by
    unfold ordL at hk
    exact List.mem_range.mp (List.mem_filter.mp hk).1
  unfold ordR at h
  split at h
  · exact List.mem_range.mp h
  · split at h
    · exact List.mem_range.mp (List.mem_reverse.mp h)
    · split at h
      · rcases List.mem_append.mp h with h | h <;> exact key _ h
      · rcases List.mem_append.mp h with h | h <;> exact key _ h
theorem k_decL (N : Nat) (hN : 601 ≤ N) {e : EV} {h q : Nat} {r : RSV} (hh : h < 24) (s : St C e h) (w : WEv e) (wr : WRs r) (hr : isRl mu T q r) :
    ∀ (l : List Nat) (m i : Nat) (f : Nat → Int32) (v : Int32), (ordR r).drop i = l → i + l.length = r.2.length → l.length < m →
    ∃ f' v', l_X9_decider_2 N m (hp X (kT C f v) M T) (some 30) (some q) (nI i) = some (oI (l.find? (hB e h r.2)), hp X (kT C f' v') M T) := by
  obtain ⟨w1, w2, w3⟩ := wr
  intro l
  induction l with
  | nil =>
    intro m i f v h1 h0 h2
    obtain ⟨m, rfl⟩ : ∃ k, m = k + 1 := ⟨m - 1, by omega⟩
    obtain ⟨qo, o1, o2, o3⟩ := rl_or (X := X) (C := kT C f v) (M := M) hr
    rw [List.length_nil] at h0
    exact ⟨f, v, kd_end N m o1 o2 (nI_le (by omega) (by omega))⟩
  | cons k l ih =>
    intro m i f v h1 h0 h2
    obtain ⟨m, rfl⟩ : ∃ k, m = k + 1 := ⟨m - 1, by omega⟩
    rw [List.length_cons] at h0 h2
    obtain ⟨qo, o1, o2, o3⟩ := rl_or (X := X) (C := kT C f v) (M := M) hr
    have hoi : (ordR r)[i]? = some k := by
      have := congrArg (fun z => z[0]?) h1
      simp only [List.getElem?_drop, Nat.add_zero, List.getElem?_cons_zero] at this
      exact this
    have hd : (ordR r).drop (i + 1) = l := by
      have := congrArg (fun z => z.drop 1) h1
      simpa [List.drop_drop, Nat.add_comm] using this
    have hk : k < r.2.length := ordR_mem (how := r.1) (List.mem_of_getElem? hoi)
    obtain ⟨ln, hln⟩ := at_ex r.2 hk
    obtain ⟨p, p1, p2⟩ := rl_at (X := X) (C := kT C f v) (M := M) hr hln (by omega)
    obtain ⟨b, f1, v1, b1, b2⟩ := k_held (X := X) (M := M) (C := kT C f v) N hN (s.kT (f := f) (v := v)) w (w3 ln (List.mem_of_getElem? hln)) p2
    rw [kT_kT] at b1
    have hB' : hB e h r.2 k = hldB e h ln := by unfold hB; rw [hln]
    have hb := hb_e b (i := h) (by omega)
    rw [b2 h (by omega), show decide (h < 24) = true by simp [hh], Bool.true_and, ← hB'] at hb
    have g5 : gI (hp X (kT C f1 v1) M T) (some 30) 9 5 = some (nI h) := by rw [gi_30_5, kT_1 (by decide), s.2.2.2.1]
    have hlt : ¬ nI r.2.length ≤ nI i := nI_ge (by omega) (by omega)
    cases hq : hB e h r.2 k with
    | false =>
      rw [hq] at hb
      obtain ⟨f', v', hf'⟩ := ih m (i + 1) f1 v1 hd (by omega) (by omega)
      refine ⟨f', v', ?_⟩
      rw [kd_no N m o1 o2 hlt (o3 i k hoi (by omega) (by omega)) p1 b1 g5 hb, nI_1, List.find?_cons, hq]
      exact hf'
    | true =>
      rw [hq] at hb
      obtain ⟨qo', o1', o2', o3'⟩ := rl_or (X := X) (C := kT C f1 v1) (M := M) hr
      have hqo : qo' = qo := by
        obtain ⟨z0, ql, qq, fl, fo, z1, z2, z3, -⟩ := hr
        have e1 := gR_at (k := 2) (z0.gc (X := X) (C := kT C f v) (M := M) |>.trans z3) rfl
        have e2 := gR_at (k := 2) (z0.gc (X := X) (C := kT C f1 v1) (M := M) |>.trans z3) rfl
        rw [o1] at e1
        rw [o1'] at e2
        exact (Option.some.inj (Option.some.inj e2)).trans (Option.some.inj (Option.some.inj e1)).symm
      subst hqo
      refine ⟨f1, v1, ?_⟩
      rw [List.find?_cons, hq]
      exact kd_yes N m o1 o2 hlt (o3 i k hoi (by omega) (by omega)) p1 b1 g5 hb o1' (o3' i k hoi (by omega) (by omega))
theorem k_dec (N : Nat) (hN : 601 ≤ N) {e : EV} {h q : Nat} {r : RSV} (hh : h < 24) (s : St C e h) (w : WEv e) (wr : WRs r) (hr : isRl mu T q r) : ∃ f v, f_X9_decider N (hp X C M T) (some 30) (some q) = some (oI (decP r.1 r.2.length (hB e h r.2) (letB r.2)), hp X (kT C f v) M T) := by
  have hol : (ordR r).length = r.2.length := ordR_len (how := r.1) fun l hl => (wr.2.2 l hl).1
  have := wr.2.1
  obtain ⟨f, v, hf⟩ := k_decL (X := X) (M := M) N hN hh s w wr hr (ordR r) N 0 (C.2.1 5) (C.1 12) rfl (by omega) (by omega)
  rw [kT_id, nI_0, decP_ord (how := r.1) (ls := r.2) wr.1 (fun l hl => (wr.2.2 l hl).1)] at hf
  refine ⟨f, v, ?_⟩
  unfold f_X9_decider b_X9_decider
  rw [io_30, if_pos rfl]
  exact hf
theorem k_let (N : Nat) (hN : 601 ≤ N) {e : EV} {h q : Nat} {r : RSV} (hh : h < 24) (s : St C e h) (w : WEv e) (wr : WRs r) (hr : isRl mu T q r) : ∃ f v, f_X9_lets N (hp X C M T) (some 30) (some q) = some (b01 (letP r.1 r.2.length (hB e h r.2) (letB r.2)), hp X (kT C f v) M T) := by
  obtain ⟨f, v, hf⟩ := k_dec (X := X) (M := M) N hN hh s w wr hr
  have := wr.2.1
  refine ⟨f, v, ?_⟩
  unfold letP
  cases hq : decP r.1 r.2.length (hB e h r.2) (letB r.2) with
  | none =>
    rw [hq] at hf
    exact kl_none N io_30 hf (rl_at_f hr (Or.inl (by decide)))
  | some k =>
    rw [hq] at hf
    have hk := decP_lt hq
    obtain ⟨l, hl⟩ := at_ex r.2 hk.1
    obtain ⟨p, p1, p2⟩ := rl_at (X := X) (C := kT C f v) (M := M) hr hl (by omega)
    have l2 := (wr.2.2 l (List.mem_of_getElem? hl)).1
    have lb : letB r.2 k = (l.1 == 1) := by unfold letB; rw [hl]
    obtain ⟨-, b1, -⟩ := ln_all (X := X) (C := kT C f v) (M := M) p2
    refine kl_some N io_30 hf p1 (letB r.2 k) ?_
    rw [b1, lb]
    rcases (show l.1 = 0 ∨ l.1 = 1 by omega) with z | z <;> rw [z] <;> rfl
end DCD
