/-! apply: how the class does it; RULES put into a slot -/
def cb (c : CH) (i w : Nat) : Bool := c.any fun x => x.1 == i && x.2 == w
def clsL (c : CH) : Nat → List LNV → List LNV
  | _, [] => []
  | i, x :: l => if cb c i 0 then clsL c (i + 1) l else (if cb c i 1 then turnL x else x) :: clsL c (i + 1) l
def stO (i : Nat) (x : Nat × Nat) (l : List LNV) : List LNV := stp (x.1 - i, x.2) l
theorem clsL_congr {c c' : CH} : ∀ (l : List LNV) (i : Nat), (∀ j w, i ≤ j → cb c j w = cb c' j w) → clsL c i l = clsL c' i l := by
  intro l
  induction l with
  | nil => intro i _; rfl
  | cons x l ih =>
    intro i h
    unfold clsL
    rw [h i 0 (Nat.le_refl _), h i 1 (Nat.le_refl _), ih (i + 1) (fun j w hj => h j w (by omega))]
theorem cb_no {c : CH} {i w : Nat} (h : ∀ x ∈ c, i < x.1) : cb c i w = false := by
  unfold cb
  rw [List.any_eq_false]
  intro x hx
  have := h x hx
  simp; omega
theorem stO_cons {i : Nat} {a : LNV} {l : List LNV} : ∀ (c : CH), (∀ x ∈ c, i < x.1) → c.foldr (stO i) (a :: l) = a :: c.foldr (stO (i + 1)) l := by
  intro c
  induction c with
  | nil => intro _; rfl
  | cons x c ih =>
    intro h
    have hx := h x List.mem_cons_self
    rw [List.foldr_cons, List.foldr_cons, ih (fun y hy => h y (List.mem_cons_of_mem _ hy))]
    unfold stO stp
    rw [show x.1 - i = (x.1 - (i + 1)) + 1 by omega]
    show (if x.2 = 1 then _ else _) = a :: (if x.2 = 1 then _ else _)
    split
    · rfl
    · rfl
theorem fold_nil {i : Nat} : ∀ (c : CH), c.foldr (stO i) [] = [] := by
  intro c
  induction c with
  | nil => rfl
  | cons x c ih =>
    rw [List.foldr_cons, ih]
    unfold stO stp
    split <;> simp
theorem apC_cls : ∀ (l : List LNV) (i : Nat) (c : CH), (c.map Prod.fst).Pairwise (· < ·) → (∀ x ∈ c, i ≤ x.1 ∧ x.2 < 2) → c.foldr (stO i) l = clsL c i l := by
  intro l
  induction l with
  | nil => intro i c _ _; rw [fold_nil]; rfl
  | cons a l ih =>
    intro i c hp hx
    cases c with
    | nil =>
      have := ih (i + 1) [] (by simp) (fun x hx => by cases hx)
      show a :: l = clsL [] i (a :: l)
      unfold clsL
      rw [show cb [] i 0 = false from rfl, show cb [] i 1 = false from rfl, ← this]; rfl
    | cons x c =>
      have hx0 := hx x List.mem_cons_self
      rw [List.map_cons, List.pairwise_cons] at hp
      have hgt : ∀ y ∈ c, x.1 < y.1 := fun y hy => hp.1 y.1 (List.mem_map_of_mem hy)
      by_cases hi : x.1 = i
      · rw [List.foldr_cons, stO_cons c (fun y hy => by have := hgt y hy; omega)]
        have cbx : ∀ w, cb (x :: c) i w = (x.2 == w) := fun w => by
          have := cb_no (w := w) (c := c) (i := i) (fun y hy => by have := hgt y hy; omega)
          unfold cb at this ⊢
          rw [List.any_cons, this, hi]; simp
        have hcg : clsL (x :: c) (i + 1) l = clsL c (i + 1) l := clsL_congr l (i + 1) (fun j w hj => by
          unfold cb
          rw [List.any_cons, show (x.1 == j) = false by simp; omega]; rfl)
        have hih := ih (i + 1) c hp.2 (fun y hy => ⟨by have := hgt y hy; omega, (hx y (List.mem_cons_of_mem _ hy)).2⟩)
        show stO i x (a :: _) = clsL (x :: c) i (a :: l)
        unfold clsL
        rw [cbx 0, cbx 1, hcg, ← hih]
        unfold stO stp
        rw [show x.1 - i = 0 by omega]
        rcases (show x.2 = 0 ∨ x.2 = 1 by omega) with w | w <;> rw [w] <;> rfl
      · have hgt2 : ∀ y ∈ x :: c, i < y.1 := fun y hy => by
          rcases List.mem_cons.mp hy with rfl | hy
          · omega
          · have := hgt y hy; omega
        rw [stO_cons (x :: c) hgt2, ih (i + 1) (x :: c) (by rw [List.map_cons, List.pairwise_cons]; exact hp) (fun y hy => ⟨hgt2 y hy, (hx y hy).2⟩)]
        show _ = clsL (x :: c) i (a :: l)
        unfold clsL
        rw [cb_no hgt2, cb_no hgt2]
        cases l <;> rfl
theorem clsL_len (c : CH) : ∀ (l : List LNV) (i : Nat), (clsL c i l).length + (List.range' i l.length).countP (fun k => cb c k 0) = l.length := by
  intro l
  induction l with
  | nil => intro i; rfl
  | cons x l ih =>
    intro i
    have := ih (i + 1)
    rw [List.length_cons, List.range'_succ, List.countP_cons]
    unfold clsL
    cases cb c i 0
    · simp only [Bool.false_eq_true, if_false, List.length_cons]; omega
    · simp only [if_true]; omega
section AKA
variable {A A1 A2 A3 A4 A5 A6 A7 : LH} {q r x y s1 k3 : Option Nat} {v1 v2 v3 v4 v5 v6 n a b f i p : Int32} {w : Option Nat}
theorem li_ab (h0 : isO A q 0 = true) (h1 : pZ A q 0 0 v1 = some A1) (h2 : pF A1 q 0 1 (LI v2) = some A2) (h3 : pF A2 q 0 2 (LI v3) = some A3) (h4 : pF A3 q 0 3 (LI v4) = some A4) (h5 : pF A4 q 0 4 (LI v5) = some A5) (h6 : pF A5 q 0 5 (LI v6) = some A6) (h7 : pF A6 q 0 6 (LR w) = some A7) : f_X0_init A q v1 v2 v3 v4 v5 v6 w = some A7 := by
  unfold f_X0_init b_X0_init
  (repeat (first | with_reducible rfl | refine (bnd_eq (by first | with_reducible assumption)).trans ?_ | refine (if_pos (by first | with_reducible assumption | with_reducible rfl | decide | (dsimp only; first | with_reducible assumption | with_reducible rfl | decide))).trans ?_ | refine (if_neg (by first | with_reducible assumption | decide | (dsimp only; first | with_reducible assumption | decide))).trans ?_))
theorem tn_ab {B : LH} (hB : al A (.inr (0, [LI 0, LI 0, LI 0, LI 0, LI 0, LI 0, LR none])) 7 = B) (h0 : isO A q 0 = true) {bb : Bool} (h1 : gI B q 0 0 = some (b01 bb)) (h2 : gI B q 0 1 = some v2) (h3 : gI B q 0 2 = some v3) (h4 : gI B q 0 3 = some v4) (h5 : gI B q 0 4 = some v5) (h6 : gI B q 0 5 = some v6) (h7 : gR B q 0 6 = some w) (h8 : f_X0_init B (some (8 + hn A)) (b01 (!bb)) v2 v3 v4 v5 v6 w = some A1) : f_X0_turned A q = some (some (8 + hn A), A1) := by
  subst hB
  unfold f_X0_turned b_X0_turned
  cases bb with
  | true =>
    have h1' : gI (al A (.inr (0, [LI 0, LI 0, LI 0, LI 0, LI 0, LI 0, LR none])) 7) q 0 0 = some 1 := h1
    have h8' : f_X0_init (al A (.inr (0, [LI 0, LI 0, LI 0, LI 0, LI 0, LI 0, LR none])) 7) (some (8 + hn A)) 0 v2 v3 v4 v5 v6 w = some A1 := h8
    (repeat (first | with_reducible rfl | refine (bnd_eq (by first | with_reducible assumption)).trans ?_ | refine (if_pos (by first | with_reducible assumption | with_reducible rfl | decide | (dsimp only; first | with_reducible assumption | with_reducible rfl | decide))).trans ?_ | refine (if_neg (by first | with_reducible assumption | decide | (dsimp only; first | with_reducible assumption | decide))).trans ?_ | unfold b_X0_turned_16))
  | false =>
    have h1' : gI (al A (.inr (0, [LI 0, LI 0, LI 0, LI 0, LI 0, LI 0, LR none])) 7) q 0 0 = some 0 := h1
    have h8' : f_X0_init (al A (.inr (0, [LI 0, LI 0, LI 0, LI 0, LI 0, LI 0, LR none])) 7) (some (8 + hn A)) 1 v2 v3 v4 v5 v6 w = some A1 := h8
    (repeat (first | with_reducible rfl | refine (bnd_eq (by first | with_reducible assumption)).trans ?_ | refine (if_pos (by first | with_reducible assumption | with_reducible rfl | decide | (dsimp only; first | with_reducible assumption | with_reducible rfl | decide))).trans ?_ | refine (if_neg (by first | with_reducible assumption | decide | (dsimp only; first | with_reducible assumption | decide))).trans ?_ | unfold b_X0_turned_16))
theorem ch_102 (N : Nat) {B : LH} (hB : al A (.inr (3, [LI 0, LR none, LR none])) 3 = B) (h1 : gI B q 3 0 = some a) (h2 : f_X3_init N B (some (8 + hn A)) a k3 = some A1) : b_X3_changed_102 N A q k3 = some (some (8 + hn A), A1) := by
  subst hB
  unfold b_X3_changed_102
  (repeat (first | with_reducible rfl | refine (bnd_eq (by first | with_reducible assumption)).trans ?_ | refine (if_pos (by first | with_reducible assumption | with_reducible rfl | decide | (dsimp only; first | with_reducible assumption | with_reducible rfl | decide))).trans ?_ | refine (if_neg (by first | with_reducible assumption | decide | (dsimp only; first | with_reducible assumption | decide))).trans ?_))
theorem ch_e1 (N m : Nat) (h1 : gR A q 3 1 = some x) (h2 : ln6 A x = some n) (h3 : n ≤ i) : l_X3_changed_24 N (m + 1) A q v1 v2 k3 f i = b_X3_changed_102 N A q k3 := by
  show b_X3_changed_24 N _ A q v1 v2 k3 f i = _
  unfold b_X3_changed_24
  (repeat (first | with_reducible rfl | refine (bnd_eq (by first | with_reducible assumption)).trans ?_ | refine (if_pos (by first | with_reducible assumption | with_reducible rfl | decide | (dsimp only; first | with_reducible assumption | with_reducible rfl | decide))).trans ?_ | refine (if_neg (by first | with_reducible assumption | decide | (dsimp only; first | with_reducible assumption | decide))).trans ?_))
theorem ch_e2 (N m : Nat) (h1 : gR A q 3 1 = some x) (h2 : ln6 A x = some n) (h3 : ¬ n ≤ i) (h4 : ln6 A k3 = some b) (h5 : b ≤ f) : l_X3_changed_24 N (m + 1) A q v1 v2 k3 f i = b_X3_changed_102 N A q k3 := by
  show b_X3_changed_24 N _ A q v1 v2 k3 f i = _
  unfold b_X3_changed_24
  (repeat (first | with_reducible rfl | refine (bnd_eq (by first | with_reducible assumption)).trans ?_ | refine (if_pos (by first | with_reducible assumption | with_reducible rfl | decide | (dsimp only; first | with_reducible assumption | with_reducible rfl | decide))).trans ?_ | refine (if_neg (by first | with_reducible assumption | decide | (dsimp only; first | with_reducible assumption | decide))).trans ?_))
theorem ch_l (N m : Nat) (h1 : gR A q 3 1 = some x) (h2 : ln6 A x = some n) (h3 : ¬ n ≤ i) (h4 : ln6 A k3 = some b) (h5 : ¬ b ≤ f) (h6 : f_X10_hasBit v1 i = some 1) : l_X3_changed_24 N (m + 1) A q v1 v2 k3 f i = l_X3_changed_24 N m A q v1 v2 k3 f (i + 1) := by
  show b_X3_changed_24 N _ A q v1 v2 k3 f i = _
  unfold b_X3_changed_24
  (repeat (first | with_reducible rfl | refine (bnd_eq (by first | with_reducible assumption)).trans ?_ | refine (if_pos (by first | with_reducible assumption | with_reducible rfl | decide | (dsimp only; first | with_reducible assumption | with_reducible rfl | decide))).trans ?_ | refine (if_neg (by first | with_reducible assumption | decide | (dsimp only; first | with_reducible assumption | decide))).trans ?_))
theorem ch_s (N m : Nat) {pp : Nat} (h1 : gR A q 3 1 = some x) (h2 : ln6 A x = some n) (h3 : ¬ n ≤ i) (h4 : ln6 A k3 = some b) (h5 : ¬ b ≤ f) (h6 : f_X10_hasBit v1 i = some 0) (h7 : aR A x 3 i = some (some pp)) (h8 : f_X10_hasBit v2 i = some 0) (h9 : sR A k3 3 0 f (some pp) = some A1) : l_X3_changed_24 N (m + 1) A q v1 v2 k3 f i = l_X3_changed_24 N m A1 q v1 v2 k3 (f + 1) (i + 1) := by
  have hne : ¬ some pp = none := fun z => nomatch z
  show b_X3_changed_24 N _ A q v1 v2 k3 f i = _
  unfold b_X3_changed_24
  (repeat (first | with_reducible rfl | refine (bnd_eq (by first | with_reducible assumption)).trans ?_ | refine (if_pos (by first | with_reducible assumption | with_reducible rfl | decide | (dsimp only; first | with_reducible assumption | with_reducible rfl | decide))).trans ?_ | refine (if_neg (by first | with_reducible assumption | decide | (dsimp only; first | with_reducible assumption | decide))).trans ?_ | unfold b_X3_changed_92))
theorem ch_t (N m : Nat) {pp : Nat} (h1 : gR A q 3 1 = some x) (h2 : ln6 A x = some n) (h3 : ¬ n ≤ i) (h4 : ln6 A k3 = some b) (h5 : ¬ b ≤ f) (h6 : f_X10_hasBit v1 i = some 0) (h7 : aR A x 3 i = some (some pp)) (h8 : f_X10_hasBit v2 i = some 1) (h9 : f_X0_turned A (some pp) = some (y, A1)) (h10 : sR A1 k3 3 0 f y = some A2) : l_X3_changed_24 N (m + 1) A q v1 v2 k3 f i = l_X3_changed_24 N m A2 q v1 v2 k3 (f + 1) (i + 1) := by
  have hne : ¬ some pp = none := fun z => nomatch z
  show b_X3_changed_24 N _ A q v1 v2 k3 f i = _
  unfold b_X3_changed_24
  (repeat (first | with_reducible rfl | refine (bnd_eq (by first | with_reducible assumption)).trans ?_ | refine (if_pos (by first | with_reducible assumption | with_reducible rfl | decide | (dsimp only; first | with_reducible assumption | with_reducible rfl | decide))).trans ?_ | refine (if_neg (by first | with_reducible assumption | decide | (dsimp only; first | with_reducible assumption | decide))).trans ?_ | unfold b_X3_changed_92))
theorem ch_ab (N : Nat) {rr : Option Nat × LH} (h0 : isO A q 3 = true) (h1 : gR A q 3 1 = some x) (h2 : ln6 A x = some n) (h3 : f_J6_bitCount_0f7a4 v1 = some p) (h4 : nR_ A 3 (mmx 0 (n - p)) = some A1) (h5 : l_X3_changed_24 N N A1 q v1 v2 (some (8 + hn A)) 0 0 = some rr) : f_X3_changed N A q v1 v2 = some rr := by
  unfold f_X3_changed b_X3_changed
  (repeat (first | with_reducible rfl | refine (bnd_eq (by first | with_reducible assumption)).trans ?_ | refine (if_pos (by first | with_reducible assumption | with_reducible rfl | decide | (dsimp only; first | with_reducible assumption | with_reducible rfl | decide))).trans ?_ | refine (if_neg (by first | with_reducible assumption | decide | (dsimp only; first | with_reducible assumption | decide))).trans ?_))
  exact h5
theorem pu_n {qo qs : Option Nat} (h0 : isO A q 10 = true) (h1 : f_X10_isIn v1 4 = some 1) (h2 : gR A q 10 2 = some qo) (h3 : gR A qo 8 3 = some qs) (h4 : sR A qs 4 3 v1 r = some A1) (h5 : gR A1 q 10 6 = some none) : f_X10_putRules A q v1 r = some A1 := by
  unfold f_X10_putRules b_X10_putRules
  (repeat (first | with_reducible rfl | refine (bnd_eq (by first | with_reducible assumption)).trans ?_ | refine (if_pos (by first | with_reducible assumption | with_reducible rfl | decide | (dsimp only; first | with_reducible assumption | with_reducible rfl | decide))).trans ?_ | refine (if_neg (by first | with_reducible assumption | decide | (dsimp only; first | with_reducible assumption | decide))).trans ?_))
theorem pu_o {qo qs : Option Nat} {mm : Nat} (h0 : isO A q 10 = true) (h1 : f_X10_isIn v1 4 = some 1) (h2 : gR A q 10 2 = some qo) (h3 : gR A qo 8 3 = some qs) (h4 : sR A qs 4 3 v1 r = some A1) (h5 : gR A1 q 10 6 = some (some mm)) (h6 : gI A1 (some mm) 1 0 = some a) (h7 : ¬ a = v1) : f_X10_putRules A q v1 r = some A1 := by
  have hne : ¬ some mm = none := fun z => nomatch z
  unfold f_X10_putRules b_X10_putRules
  (repeat (first | with_reducible rfl | refine (bnd_eq (by first | with_reducible assumption)).trans ?_ | refine (if_pos (by first | with_reducible assumption | with_reducible rfl | decide | (dsimp only; first | with_reducible assumption | with_reducible rfl | decide))).trans ?_ | refine (if_neg (by first | with_reducible assumption | decide | (dsimp only; first | with_reducible assumption | decide))).trans ?_))
theorem pu_s {qo qs : Option Nat} {mm : Nat} (h0 : isO A q 10 = true) (h1 : f_X10_isIn v1 4 = some 1) (h2 : gR A q 10 2 = some qo) (h3 : gR A qo 8 3 = some qs) (h4 : sR A qs 4 3 v1 r = some A1) (h5 : gR A1 q 10 6 = some (some mm)) (h6 : gI A1 (some mm) 1 0 = some a) (h7 : a = v1) (h8 : pZ A1 (some mm) 1 3 0 = some A2) : f_X10_putRules A q v1 r = some A2 := by
  have hne : ¬ some mm = none := fun z => nomatch z
  unfold f_X10_putRules b_X10_putRules
  (repeat (first | with_reducible rfl | refine (bnd_eq (by first | with_reducible assumption)).trans ?_ | refine (if_pos (by first | with_reducible assumption | with_reducible rfl | decide | (dsimp only; first | with_reducible assumption | with_reducible rfl | decide))).trans ?_ | refine (if_neg (by first | with_reducible assumption | decide | (dsimp only; first | with_reducible assumption | decide))).trans ?_))
end AKA
section APK
variable {X : XS} {C : CS} {M : MS} {T : TS} {S : SG} {K : Nat} {mu : List Nat}
/-- the constructor of Line at a new place -/
theorem k_lnNew {l : LNV} {w : Nat} (h51 : 54 ≤ T.1) (hl : l.1 < 2) : ∃ T', f_X0_init (hp X C M (aT T (.inr (0, [LI 0, LI 0, LI 0, LI 0, LI 0, LI 0, LR none])) 7)) (some (8 + T.1)) (nI l.1) (nI l.2.1) (nI l.2.2.1) (nI l.2.2.2.1) (nI l.2.2.2.2.1) (nI l.2.2.2.2.2.1) (some w) = some (hp X C M T') ∧ T'.1 = T.1 + 1 ∧ T'.2.1 = T.2.1 + 7 ∧ T'.2.2 (8 + T.1) = .inr (0, [LI (nI l.1), LI (nI l.2.1), LI (nI l.2.2.1), LI (nI l.2.2.2.1), LI (nI l.2.2.2.2.1), LI (nI l.2.2.2.2.2.1), LR (some w)]) ∧ ∀ p, p ≠ 8 + T.1 → T'.2.2 p = T.2.2 p := by
  have h59 : 62 ≤ 8 + T.1 := by omega
  obtain ⟨T0, hT0⟩ : ∃ T0, T0 = aT T (.inr (0, [LI 0, LI 0, LI 0, LI 0, LI 0, LI 0, LR none])) 7 := ⟨_, rfl⟩
  have a3 : T0.2.2 (8 + T.1) = .inr (0, [LI 0, LI 0, LI 0, LI 0, LI 0, LI 0, LR none]) := by subst hT0; exact aT_s
  have hx : nI l.1 = 0 ∨ nI l.1 = 1 := by
    rcases (show l.1 = 0 ∨ l.1 = 1 by omega) with z | z <;> rw [z]
    · exact Or.inl nI_0
    · exact Or.inr nI_1'
  have p1 := pZ_hp (X := X) (C := C) (M := M) (T := T0) (k := 0) h59 a3 (by simp) hx
  have st : ∀ (fs : List LV) (k : Nat) (v : LV), k < fs.length → pF (hp X C M (sT T0 (8 + T.1) (.inr (0, fs)))) (some (8 + T.1)) 0 k v = some (hp X C M (sT T0 (8 + T.1) (.inr (0, fs.set k v)))) := fun fs k v hk => by
    have := pF_hp (X := X) (C := C) (M := M) (T := sT T0 (8 + T.1) (.inr (0, fs))) (k := k) (v := v) h59 sT_s hk
    rwa [sTsT] at this
  rw [← hT0]
  refine ⟨_, li_ab (isO_hp h59 a3) p1 (st _ 1 _ (by simp)) (st _ 2 _ (by simp)) (st _ 3 _ (by simp)) (st _ 4 _ (by simp)) (st _ 5 _ (by simp)) (st _ 6 _ (by simp)), ?_, ?_, sT_s, fun p hp' => ?_⟩
  · show T0.1 = _; subst hT0; rfl
  · show T0.2.1 = _; subst hT0; rfl
  · rw [sT_n hp']; subst hT0; exact aT_n hp'
theorem k_turned {p : Nat} {l : LNV} (h51 : 54 ≤ T.1) (hmu : ∀ x ∈ mu, x < 8 + T.1) (h : isLn mu T p l) (hl : l.1 < 2) : ∃ T', f_X0_turned (hp X C M T) (some p) = some (some (8 + T.1), hp X C M T') ∧ T'.1 = T.1 + 1 ∧ T'.2.1 = T.2.1 + 7 ∧ isLn mu T' (8 + T.1) (turnL l) ∧ ∀ p, p ≠ 8 + T.1 → T'.2.2 p = T.2.2 p := by
  obtain ⟨p59, p8⟩ := h.hi
  obtain ⟨h0, w, f, h1, h2, h3, h4⟩ := h
  rw [gD_hi p59] at h2
  have hw8 : w < 8 + T.1 := by have := h1.2; omega
  obtain ⟨T', t1, t2, t3, t4, t5⟩ := k_lnNew (X := X) (C := C) (M := M) (T := T) (l := turnL l) (w := w) h51 (by show 1 - l.1 < 2; omega)
  have hcell : (aT T (.inr (0, [LI 0, LI 0, LI 0, LI 0, LI 0, LI 0, LR none])) 7).2.2 p = .inr (0, [LI (nI l.1), LI (nI l.2.1), LI (nI l.2.2.1), LI (nI l.2.2.2.1), LI (nI l.2.2.2.2.1), LI (nI l.2.2.2.2.2.1), LR (some w)]) := (aT_n (by omega)).trans h2
  have hb : nI l.1 = b01 (l.1 == 1) ∧ b01 (!(l.1 == 1)) = nI (turnL l).1 := by
    unfold turnL
    rcases (show l.1 = 0 ∨ l.1 = 1 by omega) with z | z <;> rw [z] <;> exact ⟨rfl, rfl⟩
  refine ⟨T', ?_, t2, t3, ?_, t5⟩
  · refine tn_ab (al_hp h51) (isO_hp p59 h2) (bb := l.1 == 1) ((gI_hp p59 hcell rfl).trans (congrArg some hb.1)) (gI_hp p59 hcell rfl) (gI_hp p59 hcell rfl) (gI_hp p59 hcell rfl) (gI_hp p59 hcell rfl) (gI_hp p59 hcell rfl) (gR_hp p59 hcell rfl) ?_
    rw [hb.2]; exact t1
  · have hgr : Gr T T' := ⟨by omega, fun q hq => t5 q (by omega)⟩
    refine ⟨⟨fun z => by have := hmu _ z; omega, by omega⟩, w, f, (hgr.ex (mu := mu) h51 w h1).1, (gD_hi (by omega)).trans t4, (hgr.gD hw8).trans h3, h4⟩
end APK
