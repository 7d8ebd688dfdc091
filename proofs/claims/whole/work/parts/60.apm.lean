/-! apply: what is done, and how the reference does it -/
def turnL (l : LNV) : LNV := (1 - l.1, l.2)
def stp (x : Nat × Nat) (ls : List LNV) : List LNV := if x.2 = 1 then ls.modify x.1 turnL else ls.eraseIdx x.1
def apC (c : CH) (ls : List LNV) : List LNV := c.foldr stp ls
theorem stp_len {x : Nat × Nat} {ls : List LNV} (h : x.1 < ls.length) : (stp x ls).length = if x.2 = 1 then ls.length else ls.length - 1 := by
  unfold stp
  split
  · rw [List.length_modify]
  · rw [List.length_eraseIdx]; simp [h]
theorem apC_len {L : Nat} {ls : List LNV} (hL : ls.length = L) : ∀ (c : CH) (i : Nat), (c.map Prod.fst).Pairwise (· < ·) → (∀ x ∈ c, i ≤ x.1 ∧ x.1 < L) → i ≤ L → i ≤ (apC c ls).length ∧ (apC c ls).length ≤ L := by
  intro c
  induction c with
  | nil => intro i _ _ hi; exact ⟨by show i ≤ ls.length; omega, by show ls.length ≤ L; omega⟩
  | cons x c ih =>
    intro i hp hx hi
    rw [List.map_cons, List.pairwise_cons] at hp
    have h1 := hx x List.mem_cons_self
    have h2 := ih (x.1 + 1) hp.2 (fun y hy => ⟨hp.1 y.1 (List.mem_map_of_mem hy), (hx y (List.mem_cons_of_mem _ hy)).2⟩) (by omega)
    have h3 : apC (x :: c) ls = stp x (apC c ls) := rfl
    rw [h3, stp_len (by omega)]
    split <;> omega
section APA
variable {A A1 A2 A3 : LH} {q x y z : Option Nat} {v1 v3 n a b c l s : Int32}
theorem ap_no (N : Nat) (h0 : isO A q 11 = true) (h1 : pF A q 11 0 (LI 0) = some A1) (h2 : gI A1 q 11 41 = some 0) : f_X11_apply N A q = some (-1, A1) := by
  unfold f_X11_apply b_X11_apply
  (repeat (first | with_reducible rfl | refine (bnd_eq (by first | with_reducible assumption)).trans ?_ | refine (if_pos (by first | with_reducible assumption | with_reducible rfl | decide | (dsimp only; first | with_reducible assumption | with_reducible rfl | decide))).trans ?_ | refine (if_neg (by first | with_reducible assumption | decide | (dsimp only; first | with_reducible assumption | decide))).trans ?_))
theorem ap_ne (N : Nat) (h0 : isO A q 11 = true) (h1 : pF A q 11 0 (LI 0) = some A1) (h2 : gI A1 q 11 41 = some 1) (h3 : gR A1 q 11 37 = some x) (h4 : gI A1 q 11 42 = some s) (h5 : aI A1 x 0 s = some a) (h6 : gI A1 q 11 43 = some b) (h7 : ¬ a = b) : f_X11_apply N A q = some (-1, A1) := by
  unfold f_X11_apply b_X11_apply
  (repeat (first | with_reducible rfl | refine (bnd_eq (by first | with_reducible assumption)).trans ?_ | refine (if_pos (by first | with_reducible assumption | with_reducible rfl | decide | (dsimp only; first | with_reducible assumption | with_reducible rfl | decide))).trans ?_ | refine (if_neg (by first | with_reducible assumption | decide | (dsimp only; first | with_reducible assumption | decide))).trans ?_))
theorem ap_go (N : Nat) (h0 : isO A q 11 = true) (h1 : pF A q 11 0 (LI 0) = some A1) (h2 : gI A1 q 11 41 = some 1) (h3 : gR A1 q 11 37 = some x) (h4 : gI A1 q 11 42 = some s) (h5 : aI A1 x 0 s = some a) (h6 : gI A1 q 11 43 = some b) (h7 : a = b) (h8 : gI A1 q 11 44 = some n) (h9 : l_X11_apply_37 N N A1 q (n - 1) = some (c, A2)) : f_X11_apply N A q = some (c, A2) := by
  unfold f_X11_apply b_X11_apply
  (repeat (first | with_reducible rfl | refine (bnd_eq (by first | with_reducible assumption)).trans ?_ | refine (if_pos (by first | with_reducible assumption | with_reducible rfl | decide | (dsimp only; first | with_reducible assumption | with_reducible rfl | decide))).trans ?_ | refine (if_neg (by first | with_reducible assumption | decide | (dsimp only; first | with_reducible assumption | decide))).trans ?_))
  exact h9
theorem aq_end (N m : Nat) (h1 : v1 < 0) (h2 : gI A q 11 36 = some a) (h3 : pF A q 11 36 (LI (a + 1)) = some A1) (h4 : gR A1 q 11 37 = some x) (h5 : gI A1 q 11 42 = some s) (h6 : gI A1 q 11 36 = some b) (h7 : sI A1 x 0 s b = some A2) (h8 : gR A2 q 11 14 = some y) (h9 : gI A2 q 11 42 = some s) (h10 : aI A2 y 0 s = some c) : l_X11_apply_37 N (m + 1) A q v1 = some (c, A2) := by
  show b_X11_apply_37 N _ A q v1 = _
  unfold b_X11_apply_37
  (repeat (first | with_reducible rfl | refine (bnd_eq (by first | with_reducible assumption)).trans ?_ | refine (if_pos (by first | with_reducible assumption | with_reducible rfl | decide | (dsimp only; first | with_reducible assumption | with_reducible rfl | decide))).trans ?_ | refine (if_neg (by first | with_reducible assumption | decide | (dsimp only; first | with_reducible assumption | decide))).trans ?_))
theorem aq_t (N m : Nat) (h1 : ¬ v1 < 0) (h2 : gI A q 11 42 = some s) (h3 : gR A q 11 45 = some x) (h4 : aI A x 0 v1 = some l) (h5 : gR A q 11 46 = some y) (h6 : aI A y 0 v1 = some 1) (h7 : gR A q 11 15 = some z) (h8 : aI A z 0 (8 * (12 * s + l)) = some a) (h9 : sI A z 0 (8 * (12 * s + l)) (1 - a) = some A1) : l_X11_apply_37 N (m + 1) A q v1 = l_X11_apply_37 N m A1 q (v1 + (-1)) := by
  show b_X11_apply_37 N _ A q v1 = _
  unfold b_X11_apply_37
  (repeat (first | with_reducible rfl | refine (bnd_eq (by first | with_reducible assumption)).trans ?_ | refine (if_pos (by first | with_reducible assumption | with_reducible rfl | decide | (dsimp only; first | with_reducible assumption | with_reducible rfl | decide))).trans ?_ | refine (if_neg (by first | with_reducible assumption | decide | (dsimp only; first | with_reducible assumption | decide))).trans ?_))
theorem aq_l (N m : Nat) (h1 : ¬ v1 < 0) (h2 : gI A q 11 42 = some s) (h3 : gR A q 11 45 = some x) (h4 : aI A x 0 v1 = some l) (h5 : gR A q 11 46 = some y) (h6 : aI A y 0 v1 = some 0) (h7 : gR A q 11 14 = some z) (h8 : aI A z 0 s = some n) (h9 : sI A z 0 s (n - 1) = some A1) : l_X11_apply_37 N (m + 1) A q v1 = l_X11_apply_101 N (l_X11_apply_37 N m) N A1 q v1 (8 * (12 * s + l)) := by
  show b_X11_apply_37 N _ A q v1 = _
  unfold b_X11_apply_37
  (repeat (first | with_reducible rfl | refine (bnd_eq (by first | with_reducible assumption)).trans ?_ | refine (if_pos (by first | with_reducible assumption | with_reducible rfl | decide | (dsimp only; first | with_reducible assumption | with_reducible rfl | decide))).trans ?_ | refine (if_neg (by first | with_reducible assumption | decide | (dsimp only; first | with_reducible assumption | decide))).trans ?_))
theorem as_end (N m : Nat) {k37 : LH → Option Nat → Int32 → Option (Int32 × LH)} (h1 : gI A q 11 42 = some s) (h2 : gR A q 11 14 = some z) (h3 : aI A z 0 s = some n) (h4 : 8 * (12 * s + n) ≤ v3) : l_X11_apply_101 N k37 (m + 1) A q v1 v3 = k37 A q (v1 + (-1)) := by
  show b_X11_apply_101 N _ _ A q v1 v3 = _
  unfold b_X11_apply_101
  (repeat (first | with_reducible rfl | refine (bnd_eq (by first | with_reducible assumption)).trans ?_ | refine (if_pos (by first | with_reducible assumption | with_reducible rfl | decide | (dsimp only; first | with_reducible assumption | with_reducible rfl | decide))).trans ?_ | refine (if_neg (by first | with_reducible assumption | decide | (dsimp only; first | with_reducible assumption | decide))).trans ?_))
theorem as_st (N m : Nat) {k37 : LH → Option Nat → Int32 → Option (Int32 × LH)} (h1 : gI A q 11 42 = some s) (h2 : gR A q 11 14 = some z) (h3 : aI A z 0 s = some n) (h4 : ¬ 8 * (12 * s + n) ≤ v3) (h5 : gR A q 11 15 = some x) (h6 : aI A x 0 (v3 + 8) = some a) (h7 : sI A x 0 v3 a = some A1) : l_X11_apply_101 N k37 (m + 1) A q v1 v3 = l_X11_apply_101 N k37 m A1 q v1 (v3 + 1) := by
  show b_X11_apply_101 N _ _ A q v1 v3 = _
  unfold b_X11_apply_101
  (repeat (first | with_reducible rfl | refine (bnd_eq (by first | with_reducible assumption)).trans ?_ | refine (if_pos (by first | with_reducible assumption | with_reducible rfl | decide | (dsimp only; first | with_reducible assumption | with_reducible rfl | decide))).trans ?_ | refine (if_neg (by first | with_reducible assumption | decide | (dsimp only; first | with_reducible assumption | decide))).trans ?_))
end APA
section APM
variable {X : XS} {C : CS} {M : MS} {T : TS} {S : SG} {K : Nat} {mu : List Nat}
/-- only rows 14 and 15 of this slot differ -/
def EqP (M M' : MS) (s : Nat) : Prop := M'.1 = M.1 ∧ (∀ a, a ≠ 14 → a ≠ 15 → M'.2.2 a = M.2.2 a) ∧ (∀ i, i ≠ s → M'.2.2 14 i = M.2.2 14 i) ∧ ∀ i, i < 96 * s ∨ 96 * s + 96 ≤ i → M'.2.2 15 i = M.2.2 15 i
theorem EqP.rf {s : Nat} : EqP M M s := ⟨rfl, fun _ _ _ => rfl, fun _ _ => rfl, fun _ _ => rfl⟩
theorem EqP.tr {M' M'' : MS} {s : Nat} (h : EqP M M' s) (h2 : EqP M' M'' s) : EqP M M'' s := ⟨h2.1.trans h.1, fun a h4 h5 => (h2.2.1 a h4 h5).trans (h.2.1 a h4 h5), fun i hi => (h2.2.2.1 i hi).trans (h.2.2.1 i hi), fun i hi => (h2.2.2.2 i hi).trans (h.2.2.2 i hi)⟩
theorem EqP.s15 {M' : MS} {s i : Nat} {v : Int32} (h : EqP M M' s) (hi : 96 * s ≤ i ∧ i < 96 * s + 96) : EqP M (ma M' 15 (upd (M'.2.2 15) i v)) s := h.tr ⟨rfl, fun a h4 h5 => by rw [ma_n _ _ h5], fun j hj => by rw [ma_n _ _ (by decide)], fun j hj => by rw [ma_s, pk_un (by omega)]⟩
theorem EqP.s14 {M' : MS} {s : Nat} {v : Int32} (h : EqP M M' s) : EqP M (ma M' 14 (upd (M'.2.2 14) s v)) s := h.tr ⟨rfl, fun a h4 h5 => by rw [ma_n _ _ h4], fun j hj => by rw [ma_s, pk_un hj], fun j hj => by rw [ma_n _ _ (by decide)]⟩
/-- the seven numbers of a LINE, and its code -/
def MLs (M : MS) (s : Nat) (ls : List LNV) : Prop := ∀ (k : Nat) (l : LNV), ls[k]? = some l → MLn M.2.2 s k l
theorem MLn.cells {b b' : Nat → Nat → Int32} {s k k' : Nat} {l : LNV} (h : MLn b s k l) (h15 : ∀ c, c < 7 → b' 15 (96 * s + (8 * k' + c)) = b 15 (96 * s + (8 * k + c))) (h16 : b' 16 = b 16) (h17 : b' 17 = b 17) : MLn b' s k' l := by
  obtain ⟨g1, g2, g3, g4, g5, g6, g7⟩ := h
  unfold MLn
  rw [h16, h17]
  refine ⟨(h15 0 (by omega)).trans g1, (h15 1 (by omega)).trans g2, (h15 2 (by omega)).trans g3, (h15 3 (by omega)).trans g4, (h15 4 (by omega)).trans g5, (h15 5 (by omega)).trans g6, ?_⟩
  rcases g7 with ⟨g7, g8⟩ | ⟨g7, off, g8, g9, g10⟩
  · exact Or.inl ⟨g7, (h15 6 (by omega)).trans g8⟩
  · exact Or.inr ⟨g7, off, g8, (h15 6 (by omega)).trans g9, g10⟩
/-- a LINE is TURNED -/
theorem m_turn {s i : Nat} {ls : List LNV} (hs : s < 4) (h : MLs M s ls) (hi : i < ls.length) (h12 : ls.length ≤ 12) (hl : ∀ l ∈ ls, l.1 < 2) : ∃ a, M.2.2 15 (96 * s + 8 * i) = a ∧ MLs (ma M 15 (upd (M.2.2 15) (96 * s + 8 * i) (1 - a))) s (ls.modify i turnL) := by
  refine ⟨_, rfl, fun k l hk => ?_⟩
  have hkl : k < ls.length := by have := at_lt hk; rwa [List.length_modify] at this
  obtain ⟨l0, hl0⟩ := at_ex ls hkl
  have h0 := h k l0 hl0
  rw [List.getElem?_modify] at hk
  by_cases q : i = k
  · subst q
    rw [hl0] at hk
    have hk' : (if i = i then turnL l0 else l0) = l := Option.some.inj hk
    rw [if_pos rfl] at hk'
    subst hk'
    have l2 := hl l0 (List.mem_of_getElem? hl0)
    obtain ⟨g1, g2, g3, g4, g5, g6, g7⟩ := h0
    have c15 : ∀ c, 0 < c → c < 7 → (ma M 15 (upd (M.2.2 15) (96 * s + 8 * i) (1 - M.2.2 15 (96 * s + 8 * i)))).2.2 15 (96 * s + (8 * i + c)) = M.2.2 15 (96 * s + (8 * i + c)) := fun c h1 h2 => by rw [ma_s, pk_un (by omega)]
    unfold MLn turnL
    rw [ma_n _ _ (show 16 ≠ 15 by decide), ma_n _ _ (show 17 ≠ 15 by decide)]
    refine ⟨?_, (c15 1 (by omega) (by omega)).trans g2, (c15 2 (by omega) (by omega)).trans g3, (c15 3 (by omega) (by omega)).trans g4, (c15 4 (by omega) (by omega)).trans g5, (c15 5 (by omega) (by omega)).trans g6, ?_⟩
    · rw [ma_s, pk_us, g1, ← nI_1', pk_sub (by omega)]
    · rcases g7 with ⟨g7, g8⟩ | ⟨g7, off, g8, g9, g10⟩
      · exact Or.inl ⟨g7, (c15 6 (by omega) (by omega)).trans g8⟩
      · exact Or.inr ⟨g7, off, g8, (c15 6 (by omega) (by omega)).trans g9, g10⟩
  · rw [hl0] at hk
    have hk' : (if i = k then turnL l0 else l0) = l := Option.some.inj hk
    rw [if_neg q] at hk'
    subst hk'
    exact h0.cells (fun c hc => by rw [ma_s, pk_un (by omega)]) (ma_n _ _ (by decide)) (ma_n _ _ (by decide))
/-- the LINES behind one go down -/
theorem m_shift (N : Nat) {s i L' : Nat} {v1 : Int32} (hs : s < 4) (h12 : L' < 12) (hi : i ≤ L') {k37 : LH → Option Nat → Int32 → Option (Int32 × LH)} : ∀ (d m p : Nat) (M1 : MS), 8 * L' = p + d → d < m → 8 * i ≤ p → M1.1 42 = nI s → M1.2.2 14 s = nI L' → EqP M M1 s → (∀ j, 8 * i ≤ j → j < p → M1.2.2 15 (96 * s + j) = M.2.2 15 (96 * s + (j + 8))) → (∀ j, j < 8 * i ∨ p ≤ j → M1.2.2 15 (96 * s + j) = M.2.2 15 (96 * s + j)) → ∃ M2, l_X11_apply_101 N k37 m (hp X C M1 T) (some 35) v1 (nI (96 * s + p)) = k37 (hp X C M2 T) (some 35) (v1 + (-1)) ∧ EqP M M2 s ∧ M2.2.2 14 s = nI L' ∧ (∀ j, 8 * i ≤ j → j < 8 * L' → M2.2.2 15 (96 * s + j) = M.2.2 15 (96 * s + (j + 8))) ∧ ∀ j, j < 8 * i → M2.2.2 15 (96 * s + j) = M.2.2 15 (96 * s + j) := by
  intro d
  have e8 : ∀ n, (8 : Int32) * (12 * nI s + nI n) = nI (96 * s + 8 * n) := fun n => by rw [← nI_8, ← nI_12, pk_mul, nI_add, pk_mul]; congr 1; omega
  induction d with
  | zero =>
    intro m p M1 h1 h2 h3 h42 h14 he hj1 hj2
    obtain ⟨m, rfl⟩ : ∃ k, m = k + 1 := ⟨m - 1, by omega⟩
    refine ⟨M1, as_end N m (by rw [gi_35_42, h42]) gr_35_14 (by rw [ai_48 (by omega), h14]) (by rw [e8]; exact nI_le (by omega) (by omega)), he, h14, fun j q1 q2 => hj1 j q1 (by omega), fun j q => hj2 j (Or.inl q)⟩
  | succ d ih =>
    intro m p M1 h1 h2 h3 h42 h14 he hj1 hj2
    obtain ⟨m, rfl⟩ : ∃ k, m = k + 1 := ⟨m - 1, by omega⟩
    have b1 : 96 * s + (p + 8) < 1536 := by omega
    have b2 : 96 * s + p < 1536 := by omega
    obtain ⟨M2, g1, g2⟩ := ih m (p + 1) (ma M1 15 (upd (M1.2.2 15) (96 * s + p) (M.2.2 15 (96 * s + (p + 8))))) (by omega) (by omega) (by omega) h42 (by rw [ma_n _ _ (by decide)]; exact h14) (he.s15 (by omega)) (fun j q1 q2 => by
      rw [ma_s]
      by_cases q : j = p
      · subst q; rw [pk_us]
      · rw [pk_un (by omega)]; exact hj1 j q1 (by omega)) (fun j q => by
      rw [ma_s, pk_un (by omega)]; exact hj2 j (by omega))
    refine ⟨M2, ?_, g2⟩
    have s1 : sI (hp X C M1 T) (some 49) 0 (nI (96 * s + p)) (M.2.2 15 (96 * s + (p + 8))) = some (hp X C (ma M1 15 (upd (M1.2.2 15) (96 * s + p) (M.2.2 15 (96 * s + (p + 8))))) T) := si_49 b2
    have a1 : aI (hp X C M1 T) (some 49) 0 (nI (96 * s + p) + 8) = some (M.2.2 15 (96 * s + (p + 8))) := by
      rw [← nI_8, nI_add, Nat.add_assoc, ai_49 b1, hj2 (p + 8) (by omega)]
    rw [as_st N m (by rw [gi_35_42, h42]) gr_35_14 (by rw [ai_48 (by omega), h14]) (by rw [e8]; exact nI_ge (by omega) (by omega)) gr_35_15 a1 s1, nI_1]
    exact g1
theorem m_applyL (N : Nat) (hN : 200 ≤ N) {s L : Nat} {c : CH} {ls : List LNV} (hs : s < 4) (hL : ls.length = L) (h12 : L ≤ 12) (hl : ∀ l ∈ ls, l.1 < 2) (hpw : (c.map Prod.fst).Pairwise (· < ·)) (hc : ∀ x ∈ c, x.1 < L ∧ x.2 < 2) (hc3 : c.length ≤ 3) (h42 : M.1 42 = nI s) (h45 : ∀ i x, c[i]? = some x → M.2.2 45 i = nI x.1 ∧ M.2.2 46 i = nI x.2) :
    ∀ (j m : Nat) (M1 : MS), j ≤ c.length → j < m → EqP M M1 s → M1.2.2 14 s = nI (apC (c.drop j) ls).length → MLs M1 s (apC (c.drop j) ls) → ∃ M2 m', l_X11_apply_37 N m (hp X C M1 T) (some 35) (nI j - 1) = l_X11_apply_37 N (m' + 1) (hp X C M2 T) (some 35) (nI 0 - 1) ∧ EqP M M2 s ∧ M2.2.2 14 s = nI (apC c ls).length ∧ MLs M2 s (apC c ls) := by
  have e8 : ∀ n, (8 : Int32) * (12 * nI s + nI n) = nI (96 * s + 8 * n) := fun n => by rw [← nI_8, ← nI_12, pk_mul, nI_add, pk_mul]; congr 1; omega
  have hap2 : ∀ c' : CH, ∀ l ∈ apC c' ls, l.1 < 2 := by
    intro c'
    induction c' with
    | nil => exact hl
    | cons x c' ih =>
      intro l hm
      have e : apC (x :: c') ls = stp x (apC c' ls) := rfl
      rw [e] at hm
      unfold stp at hm
      split at hm
      · obtain ⟨k, hk⟩ := List.getElem?_of_mem hm
        rw [List.getElem?_modify] at hk
        cases hq : (apC c' ls)[k]? with
        | none => rw [hq] at hk; split at hk <;> cases hk
        | some l0 =>
          rw [hq] at hk
          have := ih l0 (List.mem_of_getElem? hq)
          split at hk
          · cases hk; show 1 - l0.1 < 2; omega
          · cases hk; exact this
      · exact ih l (List.mem_of_mem_eraseIdx hm)
  intro j
  induction j with
  | zero =>
    intro m M1 h1 h2 he h14 hm
    obtain ⟨m, rfl⟩ : ∃ k, m = k + 1 := ⟨m - 1, by omega⟩
    exact ⟨M1, m, rfl, he, h14, hm⟩
  | succ j ih =>
    intro m M1 h1 h2 he h14 hm
    obtain ⟨m, rfl⟩ : ∃ k, m = k + 1 := ⟨m - 1, by omega⟩
    obtain ⟨x, hx⟩ := at_ex c (show j < c.length by omega)
    obtain ⟨x1, x2⟩ := h45 j x hx
    obtain ⟨y1, y2⟩ := hc x (List.mem_of_getElem? hx)
    have hdr : c.drop j = x :: c.drop (j + 1) := by
      have hj := at_lt hx
      rw [List.drop_eq_getElem_cons hj]
      rw [List.getElem?_eq_getElem hj] at hx
      cases hx; rfl
    have hap : apC (c.drop j) ls = stp x (apC (c.drop (j + 1)) ls) := by rw [hdr]; rfl
    have hlen := apC_len hL (c.drop (j + 1)) (x.1 + 1) (by
      have := List.Pairwise.sublist (List.Sublist.map Prod.fst (List.drop_sublist (j + 1) c)) hpw
      exact this) (fun y hy => by
      obtain ⟨i, hi⟩ := List.getElem?_of_mem hy
      rw [List.getElem?_drop] at hi
      exact ⟨pw_at hpw hx hi (by omega), (hc y (List.mem_of_getElem? hi)).1⟩) (by omega)
    obtain ⟨ln, hln⟩ : ∃ ln, ln = apC (c.drop (j + 1)) ls := ⟨_, rfl⟩
    rw [← hln] at hlen h14 hm hap
    have hln2 := hap2 (c.drop (j + 1))
    rw [← hln] at hln2
    rw [nI_pred]
    have hpos : ¬ nI j < 0 := nI_pos (by omega)
    have e2 : nI j + (-1) = nI j - 1 := (Int32.sub_eq_add_neg _ _).symm
    have g42 : ∀ M' : MS, M'.1 = M.1 → gI (hp X C M' T) (some 35) 11 42 = some (nI s) := fun M' h => by rw [gi_35_42, h, h42]
    have a45 : aI (hp X C M1 T) (some 57) 0 (nI j) = some (nI x.1) := by rw [ai_57 (by omega), he.2.1 45 (by decide) (by decide), x1]
    have a46 : aI (hp X C M1 T) (some 58) 0 (nI j) = some (nI x.2) := by rw [ai_58 (by omega), he.2.1 46 (by decide) (by decide), x2]
    have b0 : 96 * s + 8 * x.1 < 1536 := by omega
    rcases (show x.2 = 1 ∨ x.2 = 0 by omega) with w | w
    · rw [w, nI_1'] at a46
      have hst : stp x ln = ln.modify x.1 turnL := if_pos w
      obtain ⟨a, q1, q2⟩ := m_turn hs hm (show x.1 < ln.length by omega) (by omega) hln2
      have st := aq_t N m hpos (g42 M1 he.1) gr_35_45 a45 gr_35_46 a46 gr_35_15 (a := a) (A1 := hp X C (ma M1 15 (upd (M1.2.2 15) (96 * s + 8 * x.1) (1 - a))) T) (by rw [e8, ai_49 b0, q1]) (by rw [e8, si_49 b0])
      rw [st, e2]
      refine ih m _ (by omega) (by omega) (he.s15 (by omega)) ?_ ?_
      · rw [ma_n _ _ (by decide), hap, hst, List.length_modify]; exact h14
      · rw [hap, hst]; exact q2
    · rw [w, nI_0] at a46
      have hst : stp x ln = ln.eraseIdx x.1 := if_neg (by omega)
      have hle : (ln.eraseIdx x.1).length = ln.length - 1 := by rw [List.length_eraseIdx]; rw [if_pos (by omega)]
      have st := aq_l N m hpos (g42 M1 he.1) gr_35_45 a45 gr_35_46 a46 gr_35_14 (n := nI ln.length) (A1 := hp X C (ma M1 14 (upd (M1.2.2 14) s (nI (ln.length - 1)))) T) (by rw [ai_48 (by omega), h14]) (by rw [nI_m1 _ (by omega), si_48 (by omega)])
      obtain ⟨M2, k1, k2, k3, k4, k5⟩ := m_shift (X := X) (C := C) (T := T) (M := ma M1 14 (upd (M1.2.2 14) s (nI (ln.length - 1)))) (v1 := nI j) (k37 := l_X11_apply_37 N m) N hs (show ln.length - 1 < 12 by omega) (show x.1 ≤ ln.length - 1 by omega) (8 * (ln.length - 1) - 8 * x.1) N (8 * x.1) (ma M1 14 (upd (M1.2.2 14) s (nI (ln.length - 1)))) (by omega) (by omega) (Nat.le_refl _) ((congrFun he.1 42).trans h42) (by rw [ma_s, pk_us]) EqP.rf (fun i q1 q2 => by omega) (fun i _ => rfl)
      rw [st, e8, k1, e2]
      refine ih m M2 (by omega) (by omega) (he.s14.tr k2) ?_ ?_
      · rw [hap, hst, hle]; exact k3
      · rw [hap, hst]
        intro k l hk
        have c15 : ∀ p, (ma M1 14 (upd (M1.2.2 14) s (nI (ln.length - 1)))).2.2 15 p = M1.2.2 15 p := fun p => by rw [ma_n _ _ (by decide)]
        have r16 : M2.2.2 16 = M1.2.2 16 := by rw [k2.2.1 16 (by decide) (by decide), ma_n _ _ (by decide)]
        have r17 : M2.2.2 17 = M1.2.2 17 := by rw [k2.2.1 17 (by decide) (by decide), ma_n _ _ (by decide)]
        have hkl := at_lt hk
        rw [hle] at hkl
        rw [List.getElem?_eraseIdx] at hk
        split at hk
        · rename_i hlt
          exact (hm k l hk).cells (fun cc hcc => by rw [k5 _ (by omega), c15]) r16 r17
        · rename_i hge
          exact (hm (k + 1) l hk).cells (fun cc hcc => by rw [k4 (8 * k + cc) (by omega) (by omega), c15, show 8 * k + cc + 8 = 8 * (k + 1) + cc by omega]) r16 r17
end APM
