/-! CHANGES tried one after the other: the list of all, in order -/
abbrev CH : Type := List (Nat × Nat)
/-- all CHANGES of k LINES from fr on, behind pre, of L LINES -/
def allC (L : Nat) : Nat → Nat → CH → List CH
  | 0, _, pre => [pre]
  | k + 1, fr, pre => (List.range' fr (L - fr)).flatMap fun i => allC L k (i + 1) (pre ++ [(i, 0)]) ++ allC L k (i + 1) (pre ++ [(i, 1)])
def fU (f : Nat → Nat) (k v : Nat) (j : Nat) : Nat := if j = k then v else f j
def rsL : Nat → Nat → (Nat → Nat) → Nat → Nat
  | 0, _, l => l
  | d + 1, j, l => rsL d (j + 1) (fU l j (l (j - 1) + 1))
def rsH : Nat → Nat → (Nat → Nat) → Nat → Nat
  | 0, _, h => h
  | d + 1, j, h => rsH d (j + 1) (fU h j 0)
/-- the next ones, from place i - 1 down -/
def nxF (L n : Nat) : Nat → (Nat → Nat) → (Nat → Nat) → Option ((Nat → Nat) × (Nat → Nat))
  | 0, _, _ => none
  | i + 1, l, h => if h i = 0 then some (rsL (n - 1 - i) (i + 1) l, rsH (n - 1 - i) (i + 1) (fU h i 1)) else if l i < L - n + i then some (rsL (n - 1 - i) (i + 1) (fU l i (l i + 1)), rsH (n - 1 - i) (i + 1) (fU h i 0)) else nxF L n i l h
def cL (c : CH) (j : Nat) : Nat := (c.getD j (0, 0)).1
def cH (c : CH) (j : Nat) : Nat := (c.getD j (0, 0)).2
def toC (n : Nat) (l h : Nat → Nat) : CH := (List.range n).map fun j => (l j, h j)
def nextC (L n : Nat) (c : CH) : Option CH := (nxF L n n (cL c) (cH c)).map fun p => toC n p.1 p.2
def incB : CH → Bool
  | [] => true
  | [_] => true
  | a :: b :: l => decide (a.1 < b.1) && incB (b :: l)
def okE (L n : Nat) (c : CH) : Bool := c.length == n && c.all (fun x => decide (x.1 < L) && decide (x.2 < 2)) && incB c
def chn (L n : Nat) : List CH → Bool
  | [] => true
  | [c] => okE L n c && (nextC L n c == none)
  | c :: d :: l => okE L n c && (nextC L n c == some d) && chn L n (d :: l)
def chk (L n : Nat) : Bool := if n ≤ L then (allC L n 0 []).head? == some ((List.range n).map fun j => (j, 0)) && chn L n (allC L n 0 []) else allC L n 0 [] == []
theorem chk_all : ∀ L, L < 13 → ∀ n, n < 4 → chk L n = true := by decide +kernel
theorem chn_s {L n : Nat} {c d : CH} {l : List CH} (h : chn L n (c :: d :: l) = true) : okE L n c = true ∧ nextC L n c = some d ∧ chn L n (d :: l) = true := by
  simp only [chn, Bool.and_eq_true, beq_iff_eq] at h
  exact ⟨h.1.1, h.1.2, h.2⟩
theorem chn_1 {L n : Nat} {c : CH} (h : chn L n [c] = true) : okE L n c = true ∧ nextC L n c = none := by
  simp only [chn, Bool.and_eq_true, beq_iff_eq] at h
  exact h
theorem incB_pw : ∀ {c : CH}, incB c = true → (c.map Prod.fst).Pairwise (· < ·) := by
  intro c
  induction c with
  | nil => intro _; exact List.Pairwise.nil
  | cons a l ih =>
    intro h
    cases l with
    | nil => simp
    | cons b l =>
      simp only [incB, Bool.and_eq_true, decide_eq_true_iff] at h
      have h2 := ih h.2
      rw [List.map_cons, List.pairwise_cons]
      refine ⟨fun x hx => ?_, h2⟩
      rw [List.map_cons] at hx
      rw [List.map_cons, List.pairwise_cons] at h2
      rcases List.mem_cons.mp hx with rfl | hx
      · exact h.1
      · exact Nat.lt_trans h.1 (h2.1 x hx)
theorem okE_p {L n : Nat} {c : CH} (h : okE L n c = true) : c.length = n ∧ (∀ x ∈ c, x.1 < L ∧ x.2 < 2) ∧ (c.map Prod.fst).Pairwise (· < ·) := by
  simp only [okE, Bool.and_eq_true, beq_iff_eq, List.all_eq_true, decide_eq_true_iff] at h
  exact ⟨h.1.1, h.1.2, incB_pw h.2⟩
theorem chn_all {L n : Nat} : ∀ {l : List CH}, chn L n l = true → ∀ c ∈ l, okE L n c = true := by
  intro l
  induction l with
  | nil => intro _ c hc; cases hc
  | cons a l ih =>
    intro h c hc
    cases l with
    | nil =>
      rcases List.mem_cons.mp hc with rfl | hc
      · exact (chn_1 h).1
      · cases hc
    | cons b l =>
      obtain ⟨h1, h2, h3⟩ := chn_s h
      rcases List.mem_cons.mp hc with rfl | hc
      · exact h1
      · exact ih h3 c hc
