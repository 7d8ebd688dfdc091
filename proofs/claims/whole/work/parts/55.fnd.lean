/-! the class's Search: finds, fewest; the ASKS that are MARKED -/
theorem bo_bt {l : CH} (h : (l.map Prod.fst).Pairwise (· < ·)) (w : Nat) {j : Nat} (hj : j < 32) : bt (nI (bitsOf l w)) j = l.any fun c => c.1 == j && c.2 == w := by
  rw [bt_nI hj, bitsOf_tb h]
theorem pw_snoc {pre : CH} {i w : Nat} (h : (pre.map Prod.fst).Pairwise (· < ·)) (hl : ∀ c ∈ pre, c.1 < i) : ((pre ++ [(i, w)]).map Prod.fst).Pairwise (· < ·) := by
  rw [List.map_append, List.pairwise_append]
  refine ⟨h, by simp, fun a ha b hb => ?_⟩
  obtain ⟨c, hc, rfl⟩ := List.mem_map.mp ha
  simp at hb
  subst hb
  exact hl c hc
theorem bo_or {pre : CH} {i w : Nat} (h : (pre.map Prod.fst).Pairwise (· < ·)) (hl : ∀ c ∈ pre, c.1 < i) (hi : i < 32) : nI (bitsOf pre w) ||| ((1 : Int32) <<< (nI i &&& 31)) = nI (bitsOf (pre ++ [(i, w)]) w) := by
  refine b_ext fun j hj => ?_
  rw [b_or, bo_bt h w hj, bt_one hi hj, bo_bt (pw_snoc h hl) w hj, List.any_append]
  congr 1
  simp only [List.any_cons, List.any_nil, Bool.or_false, beq_self_eq_true, Bool.and_true]
  by_cases q : j = i
  · simp [q]
  · have : ¬ i = j := fun z => q z.symm
    simp [q, this]
theorem bo_cl {pre : CH} {i w : Nat} (h : (pre.map Prod.fst).Pairwise (· < ·)) (hl : ∀ c ∈ pre, c.1 < i) (hi : i < 32) : nI (bitsOf (pre ++ [(i, w)]) w) &&& (((1 : Int32) <<< (nI i &&& 31)) ^^^ (-1)) = nI (bitsOf pre w) := by
  refine b_ext fun j hj => ?_
  rw [b_and, bt_not _ hj, bt_one hi hj, bo_bt (pw_snoc h hl) w hj, bo_bt h w hj, List.any_append]
  simp only [List.any_cons, List.any_nil, Bool.or_false, beq_self_eq_true, Bool.and_true]
  by_cases q : j = i
  · subst q
    have : (pre.any fun c => c.1 == j && c.2 == w) = false := by
      rw [List.any_eq_false]
      intro c hc
      have := hl c hc
      simp; omega
    simp [this]
  · have q' : ¬ i = j := fun z => q z.symm
    simp [q, q']
theorem bo_ot {pre : CH} {i w w' : Nat} (h : w ≠ w') : bitsOf (pre ++ [(i, w)]) w' = bitsOf pre w' := by
  unfold bitsOf
  rw [List.filter_append]
  simp [h]
section FND
variable {X : XS} {C : CS} {M : MS} {T : TS} {S : SG} {K : Nat} {mu : List Nat}
/-- left and turned of the Search -/
def s2 (C : CS) (a b : Int32) : CS := c0 (c0 C 27 a) 28 b
theorem s2_27 {a b v : Int32} : c0 (s2 C a b) 27 v = s2 C v b := by
  unfold s2 c0
  refine Prod.ext ?_ rfl
  funext j
  show up (up (up C.1 27 a) 28 b) 27 v j = up (up C.1 27 v) 28 b j
  by_cases h : j = 28
  · subst h; rw [up_n _ _ (by decide), up_s, up_s]
  · by_cases h2 : j = 27
    · subst h2; rw [up_s, up_n _ _ (by decide), up_s]
    · rw [up_n _ _ h2, up_n _ _ h, up_n _ _ h2, up_n _ _ h, up_n _ _ h2]
theorem s2_28 {a b v : Int32} : c0 (s2 C a b) 28 v = s2 C a v := c0c0 _ _ _ _
theorem s2_g27 {a b : Int32} : (s2 C a b).1 27 = a := by unfold s2; rw [c0_1, up_n _ _ (by decide), c0_1, up_s]
theorem s2_g28 {a b : Int32} : (s2 C a b).1 28 = b := by unfold s2; rw [c0_1, up_s]
theorem s2_n {a b : Int32} {k : Nat} (h1 : k ≠ 27) (h2 : k ≠ 28) : (s2 C a b).1 k = C.1 k := by unfold s2; rw [c0_1, up_n _ _ h2, c0_1, up_n _ _ h1]
theorem s2_2 {a b : Int32} : (s2 C a b).2 = C.2 := rfl
def sB (C : CS) (c : CH) : CS := s2 C (nI (bitsOf c 0)) (nI (bitsOf c 1))
/-- the entries of the Search -/
def EnL (C : CS) (L : List (Int32 × Int32)) : Prop := C.1 23 = nI L.length ∧ L.length ≤ 200 ∧ ∀ (i : Nat) (x : Int32 × Int32), L[i]? = some x → C.2.1 6 i = x.1 ∧ C.2.1 7 i = x.2
/-- the entries are decided as they are wanted -/
def okEn (how L : Nat) (lt : Int32) (en : List (Int32 × Int32)) (c : CH) : Bool := en.all fun x => letP how L (fun k => bt x.1 k && !(bt (nI (bitsOf c 0)) k)) (fun k => bt lt k ^^ bt (nI (bitsOf c 1)) k) == (x.2 == 1)
theorem k_asM (N : Nat) (hN : 201 ≤ N) {how L : Nat} {lt : Int32} {en : List (Int32 × Int32)} {c : CH} (hh : how < 4) (hL : L ≤ 12) (h24 : C.1 24 = nI how) (h26 : C.1 26 = lt) (he : EnL C en) (hb : ∀ x ∈ en, ∀ j, L ≤ j → j < 32 → bt x.1 j = false) : f_X4_allAsMarked N (hp X (sB C c) M T) (some 32) = some (b01 (okEn how L lt en c)) := by
  obtain ⟨e1, e2, e3⟩ := he
  have g2 : gI (hp X (sB C c) M T) (some 32) 4 2 = some (nI en.length) := by rw [gi_32_2]; exact congrArg some ((s2_n (by decide) (by decide)).trans e1)
  have g6 : gI (hp X (sB C c) M T) (some 32) 4 6 = some (nI (bitsOf c 0)) := by rw [gi_32_6]; exact congrArg some s2_g27
  have g7 : gI (hp X (sB C c) M T) (some 32) 4 7 = some (nI (bitsOf c 1)) := by rw [gi_32_7]; exact congrArg some s2_g28
  have g5 : gI (hp X (sB C c) M T) (some 32) 4 5 = some lt := by rw [gi_32_5]; exact congrArg some ((s2_n (by decide) (by decide)).trans h26)
  have lp : ∀ (l : List (Int32 × Int32)) (m i : Nat), en.drop i = l → i + l.length = en.length → l.length < m → l_X4_allAsMarked_12 N (hp X (sB C c) M T) m (some 32) (lt ^^^ nI (bitsOf c 1)) (nI i) = some (b01 (okEn how L lt l c)) := by
    intro l
    induction l with
    | nil =>
      intro m i h1 h2 h3
      obtain ⟨m, rfl⟩ : ∃ k, m = k + 1 := ⟨m - 1, by omega⟩
      rw [List.length_nil] at h2
      exact aa_end N m g2 (nI_le (by omega) (by omega))
    | cons x l ih =>
      intro m i h1 h2 h3
      obtain ⟨m, rfl⟩ : ∃ k, m = k + 1 := ⟨m - 1, by omega⟩
      rw [List.length_cons] at h2 h3
      have hx : en[i]? = some x := by
        have := congrArg (fun z => z[0]?) h1
        simp only [List.getElem?_drop, Nat.add_zero, List.getElem?_cons_zero] at this
        exact this
      have hd : en.drop (i + 1) = l := by
        have := congrArg (fun z => z.drop 1) h1
        simpa [List.drop_drop, Nat.add_comm] using this
      obtain ⟨x1, x2⟩ := e3 i x hx
      have hbx := hb x (List.mem_of_getElem? hx)
      have il := k_isLet (X := X) (M := M) (T := T) (C := sB C c) (v := x.1 &&& (nI (bitsOf c 0) ^^^ (-1))) (lt := lt ^^^ nI (bitsOf c 1)) hh ((s2_n (by decide) (by decide)).trans h24) (fun j h4 h5 => by rw [b_and, hbx j (by omega) h5, Bool.false_and])
      have st := aa_st N m g2 (nI_ge (show i < en.length by omega) (by omega)) (by rw [← nI_200]; exact nI_ge (by omega) (by decide)) gr_32_0 ((ai_33 (X := X) (C := sB C c) (M := M) (T := T) (show i < 200 by omega)).trans (congrArg some x1)) g6 _ il gr_32_1 ((ai_34 (X := X) (C := sB C c) (M := M) (T := T) (show i < 200 by omega)).trans (congrArg some x2))
      rw [st]
      have e4 : letP how 12 (bt (x.1 &&& (nI (bitsOf c 0) ^^^ (-1)))) (bt (lt ^^^ nI (bitsOf c 1))) = letP how L (fun k => bt x.1 k && !(bt (nI (bitsOf c 0)) k)) (fun k => bt lt k ^^ bt (nI (bitsOf c 1)) k) := by
        rw [letP_ext hL (fun k h4 h5 => by rw [b_and, hbx k h4 (by omega), Bool.false_and])]
        exact letP_congr (fun k hk => by rw [b_and, bt_not _ (by omega)]) (fun k hk => by rw [b_xor])
      rw [e4]
      have e5 : okEn how L lt (x :: l) c = ((letP how L (fun k => bt x.1 k && !(bt (nI (bitsOf c 0)) k)) (fun k => bt lt k ^^ bt (nI (bitsOf c 1)) k) == (x.2 == 1)) && okEn how L lt l c) := rfl
      rw [e5]
      by_cases hq : letP how L (fun k => bt x.1 k && !(bt (nI (bitsOf c 0)) k)) (fun k => bt lt k ^^ bt (nI (bitsOf c 1)) k) = (x.2 == 1)
      · rw [if_pos hq, hq, nI_1, ih m (i + 1) hd (by omega) (by omega)]
        simp
      · rw [if_neg hq]
        have : (letP how L (fun k => bt x.1 k && !(bt (nI (bitsOf c 0)) k)) (fun k => bt lt k ^^ bt (nI (bitsOf c 1)) k) == (x.2 == 1)) = false := by
          rw [beq_eq_false_iff_ne]; exact hq
        rw [this]; rfl
  have := lp en N 0 rfl (by omega) (by omega)
  rw [nI_0] at this
  exact aa_ab N io_32 g5 g7 _ this
theorem find_fm {α : Type} (G : Nat → List α) (ok : α → Bool) {i n : Nat} (h : i < n) : ((List.range' i (n - i)).flatMap G).find? ok = ((G i).find? ok).or (((List.range' (i + 1) (n - (i + 1))).flatMap G).find? ok) := by
  rw [show n - i = (n - (i + 1)) + 1 by omega, List.range'_succ, List.flatMap_cons, List.find?_append]
theorem k_finds (N : Nat) (hN : 201 ≤ N) {how L : Nat} {lt : Int32} {en : List (Int32 × Int32)} (hh : how < 4) (hL : L ≤ 12) (h24 : C.1 24 = nI how) (h25 : C.1 25 = nI L) (h26 : C.1 26 = lt) (he : EnL C en) (hb : ∀ x ∈ en, ∀ j, L ≤ j → j < 32 → bt x.1 j = false) :
    ∀ (k d fr : Nat) (pre : CH), k < d → (pre.map Prod.fst).Pairwise (· < ·) → (∀ c ∈ pre, c.1 < fr) → k < 2 ^ 31 → fr ≤ 13 → F_X4_finds N d (hp X (sB C pre) M T) (some 32) (nI k) (nI fr) = some (b01 (((allC L k fr pre).find? (okEn how L lt en)).isSome), hp X (sB C (((allC L k fr pre).find? (okEn how L lt en)).getD pre)) M T) := by
  intro k
  induction k with
  | zero =>
    intro d fr pre hd hp1 hp2 _ _
    obtain ⟨d, rfl⟩ : ∃ k, d = k + 1 := ⟨d - 1, by omega⟩
    have := fi_0 (v1 := nI 0) (v2 := nI fr) N d (io_32 (X := X) (C := sB C pre) (M := M) (T := T)) (by decide) _ (k_asM (X := X) (M := M) (T := T) N hN hh hL h24 h26 he hb)
    rw [this]
    have e : (allC L 0 fr pre).find? (okEn how L lt en) = if okEn how L lt en pre = true then some pre else none := by
      show [pre].find? _ = _
      rw [List.find?_cons]
      cases okEn how L lt en pre <;> rfl
    rw [e]
    cases okEn how L lt en pre <;> rfl
  | succ k ih =>
    intro d fr pre hd hp1 hp2 hk31 hf13
    obtain ⟨d, rfl⟩ : ∃ k, d = k + 1 := ⟨d - 1, by omega⟩
    have G : ∀ i, i < 12 → fr ≤ i → ∀ w, w < 2 → F_X4_finds N d (hp X (sB C (pre ++ [(i, w)])) M T) (some 32) (nI k) (nI (i + 1)) = some (b01 (((allC L k (i + 1) (pre ++ [(i, w)])).find? (okEn how L lt en)).isSome), hp X (sB C (((allC L k (i + 1) (pre ++ [(i, w)])).find? (okEn how L lt en)).getD (pre ++ [(i, w)]))) M T) := fun i hi hfi w hw =>
      ih d (i + 1) (pre ++ [(i, w)]) (by omega) (pw_snoc hp1 (fun c hc => by have := hp2 c hc; omega)) (fun c hc => by
        rcases List.mem_append.mp hc with hc | hc
        · have := hp2 c hc; omega
        · simp at hc; subst hc; show i < i + 1; omega) (by omega) (by omega)
    have g4 : gI (hp X (sB C pre) M T) (some 32) 4 4 = some (nI L) := by rw [gi_32_4]; exact congrArg some ((s2_n (by decide) (by decide)).trans h25)
    have g6 : gI (hp X (sB C pre) M T) (some 32) 4 6 = some (nI (bitsOf pre 0)) := by rw [gi_32_6]; exact congrArg some s2_g27
    have lp : ∀ (e m i : Nat), L ≤ i + e → (i + e = L ∨ e = 0) → e < m → fr ≤ i → i < 2 ^ 31 → l_X4_finds_11 N (F_X4_finds N d) m (hp X (sB C pre) M T) (some 32) (nI (k + 1)) (nI i) = some (b01 ((((List.range' i (L - i)).flatMap fun i => allC L k (i + 1) (pre ++ [(i, 0)]) ++ allC L k (i + 1) (pre ++ [(i, 1)])).find? (okEn how L lt en)).isSome), hp X (sB C ((((List.range' i (L - i)).flatMap fun i => allC L k (i + 1) (pre ++ [(i, 0)]) ++ allC L k (i + 1) (pre ++ [(i, 1)])).find? (okEn how L lt en)).getD pre)) M T) := by
      intro e
      induction e with
      | zero =>
        intro m i h1 _ h2 h3 h31
        obtain ⟨m, rfl⟩ : ∃ k, m = k + 1 := ⟨m - 1, by omega⟩
        rw [show L - i = 0 by omega]
        exact fs_end N m g4 (nI_le (by omega) h31)
      | succ e ih2 =>
        intro m i h1 h1' h2 h3 h31
        obtain ⟨m, rfl⟩ : ∃ k, m = k + 1 := ⟨m - 1, by omega⟩
        have hiL : i < L := by omega
        have hlt : ¬ nI L ≤ nI i := nI_ge hiL (by omega)
        have hl : ∀ c ∈ pre, c.1 < i := fun c hc => by have := hp2 c hc; omega
        rw [find_fm _ _ hiL, List.find?_append]
        have p1 : pF (hp X (sB C pre) M T) (some 32) 4 6 (LI (nI (bitsOf pre 0) ||| ((1 : Int32) <<< (nI i &&& 31)))) = some (hp X (sB C (pre ++ [(i, 0)])) M T) := by
          rw [pi_32_6, bo_or hp1 hl (by omega)]
          unfold sB
          rw [s2_27, bo_ot (w := 0) (w' := 1) (by decide)]
        have k0 := G i (by omega) h3 0 (by decide)
        have k1 := G i (by omega) h3 1 (by decide)
        rw [← nI_pred k, ← nI_1 i] at k0 k1
        cases z0 : (allC L k (i + 1) (pre ++ [(i, 0)])).find? (okEn how L lt en) with
        | some c =>
          rw [z0] at k0
          exact fs_1 N m g4 hlt g6 p1 k0
        | none =>
          rw [z0] at k0
          have g6' : gI (hp X (sB C (pre ++ [(i, 0)])) M T) (some 32) 4 6 = some (nI (bitsOf (pre ++ [(i, 0)]) 0)) := by rw [gi_32_6]; exact congrArg some s2_g27
          have p2 : pF (hp X (sB C (pre ++ [(i, 0)])) M T) (some 32) 4 6 (LI (nI (bitsOf (pre ++ [(i, 0)]) 0) &&& (((1 : Int32) <<< (nI i &&& 31)) ^^^ (-1)))) = some (hp X (sB C pre) M T) := by
            rw [pi_32_6, bo_cl hp1 hl (by omega)]
            unfold sB
            rw [s2_27, bo_ot (w := 0) (w' := 1) (by decide)]
          have g7 : gI (hp X (sB C pre) M T) (some 32) 4 7 = some (nI (bitsOf pre 1)) := by rw [gi_32_7]; exact congrArg some s2_g28
          have p3 : pF (hp X (sB C pre) M T) (some 32) 4 7 (LI (nI (bitsOf pre 1) ||| ((1 : Int32) <<< (nI i &&& 31)))) = some (hp X (sB C (pre ++ [(i, 1)])) M T) := by
            rw [pi_32_7, bo_or hp1 hl (by omega)]
            unfold sB
            rw [s2_28, bo_ot (w := 1) (w' := 0) (by decide)]
          cases z1 : (allC L k (i + 1) (pre ++ [(i, 1)])).find? (okEn how L lt en) with
          | some c =>
            rw [z1] at k1
            exact fs_2 N m g4 hlt g6 p1 k0 g6' p2 g7 p3 k1
          | none =>
            rw [z1] at k1
            have g7' : gI (hp X (sB C (pre ++ [(i, 1)])) M T) (some 32) 4 7 = some (nI (bitsOf (pre ++ [(i, 1)]) 1)) := by rw [gi_32_7]; exact congrArg some s2_g28
            have p4 : pF (hp X (sB C (pre ++ [(i, 1)])) M T) (some 32) 4 7 (LI (nI (bitsOf (pre ++ [(i, 1)]) 1) &&& (((1 : Int32) <<< (nI i &&& 31)) ^^^ (-1)))) = some (hp X (sB C pre) M T) := by
              rw [pi_32_7, bo_cl hp1 hl (by omega)]
              unfold sB
              rw [s2_28, bo_ot (w := 1) (w' := 0) (by decide)]
            rw [fs_3 N m g4 hlt g6 p1 k0 g6' p2 g7 p3 k1 g7' p4, nI_1, ih2 m (i + 1) (by omega) (by omega) (by omega) (by omega) (by omega)]
            simp only [Option.none_or]
    have h0 : 0 < nI (k + 1) := by rw [← nI_0]; exact nI_lt (by omega) hk31
    exact fi_1 N d io_32 h0 _ (lp (L - fr) N fr (by omega) (by omega) (by omega) (Nat.le_refl _) (by omega))
end FND
