section HRS
variable {X : XS} {C : CS} {M : MS} {T : TS} {S : SG} {K : Nat} {mu : List Nat}
theorem hL_nil (N m : Nat) {A A' : LH} {q r : Option Nat} {n i v : Int32} (h1 : ln6 A r = some n) (h2 : n ≤ i) (h3 : f_X9_pop A q = some (v, A')) : l_X9_hoursOf_7 N (m + 1) A q r i = some (v, A') := by
  simp only [l_X9_hoursOf_7, b_X9_hoursOf_7, h1, Option.bind_some, h2, if_true, h3]
theorem hL_cons (N m : Nat) {A A2 : LH} {q r : Option Nat} {n i x : Int32} {p : Int32 × LH} (h1 : ln6 A r = some n) (h2 : ¬ n ≤ i) (h3 : aI A r 0 i = some x) (h4 : f_X9_hoursAfter A q x = some p) (h5 : f_X9_push p.2 q p.1 = some A2) : l_X9_hoursOf_7 N (m + 1) A q r i = l_X9_hoursOf_7 N m A2 q r (i + 1) := by
  simp only [l_X9_hoursOf_7, b_X9_hoursOf_7, h1, Option.bind_some, h2, if_false, h3, h4, h5]
theorem k_hoursL (N : Nat) {e : EV} {h wq : Nat} {w : List (Nat × Nat × Nat)} (s : St C e h) (we : WEv e) (hw : ∀ x ∈ w, x.1 < 7 ∧ x.2.1 < 1005 ∧ x.2.2 < 1005) (hlen : w.length < 600)
    (hn : ∀ C, ln6 (hp X C M T) (some wq) = some (nI w.length)) (ha : ∀ C (i : Nat) (x : Nat × Nat × Nat), w[i]? = some x → aI (hp X C M T) (some wq) 0 (nI i) = some (nI (encS x))) :
    ∀ (l : List (Nat × Nat × Nat)) (i m : Nat) (f : Nat → Int32) (st : List (Nat → Bool)), w.drop i = l → i + l.length = w.length → l.length < m → st.length ≤ 13 → stkS l st.length = some 1 → RKc f st →
    ∃ v f' n', l_X9_hoursOf_7 N m (hp X (kT C f (nI st.length)) M T) (some 30) (some wq) (nI i) = some (v, hp X (kT C f' n') M T) ∧ ∃ F, evF e l st = [F] ∧ ∀ j, j < 32 → bt v j = (decide (j < 24) && F j) := by
  intro l
  induction l with
  | nil =>
    intro i m f st h1 h2 h3 h4 h5 h6
    obtain ⟨m, rfl⟩ : ∃ k, m = k + 1 := ⟨m - 1, by omega⟩
    have h7 : st.length = 1 := Option.some.inj h5
    match st, h7, h6 with
    | [F], h7, h6 =>
      have pp := k_pop (X := X) (C := C) (M := M) (T := T) (f := f) (n := 0) (by omega)
      refine ⟨f 0, f, nI 0, ?_, F, rfl, h6.hd⟩
      refine hL_nil N m (hn _) (nI_le ?_ ?_) pp
      · rw [List.length_nil] at h2; omega
      · rw [List.length_nil] at h2; omega
  | cons x l ih =>
    intro i m f st h1 h2 h3 h4 h5 h6
    obtain ⟨m, rfl⟩ : ∃ k, m = k + 1 := ⟨m - 1, by omega⟩
    rw [List.length_cons] at h2 h3
    have hi : i < w.length := by omega
    have hx : w[i]? = some x := by
      rw [List.drop_eq_getElem_cons hi] at h1
      rw [List.getElem?_eq_getElem hi]
      exact congrArg some (List.cons.inj h1).1
    have hd : w.drop (i + 1) = l := by
      rw [List.drop_eq_getElem_cons hi] at h1
      exact (List.cons.inj h1).2
    obtain ⟨x1, x2, x3⟩ := hw x (List.mem_of_getElem? hx)
    obtain ⟨g1, g2, p, f', g3, g4, g5⟩ := k_step (X := X) (M := M) (T := T) s we x1 x2 x3 h5 h4 h6
    obtain ⟨v, f'', n', g6, F, g7, g8⟩ := ih (i + 1) m f' (stF e x st) hd (by omega) (by omega) g2 g1 g5
    refine ⟨v, f'', n', ?_, F, g7, g8⟩
    have hlt : ¬ nI w.length ≤ nI i := nI_ge hi (by omega)
    rw [hL_cons N m (hn _) hlt (ha _ i x hx) g3 g4, nI_1]
    exact g6
end HRS
