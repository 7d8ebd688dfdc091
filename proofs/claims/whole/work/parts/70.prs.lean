/-! the text read: what both do -/
section PRS
variable {tp : List Nat}
abbrev STP := Nat × Nat × Nat
/-- read: the place of what is wrong, or steps and the token behind -/
abbrev PR := Nat ⊕ (List STP × TOK)
def nx (tp : List Nat) (τ : TOK) : TOK := tok tp τ.2.2.2
def wfT (tp : List Nat) (τ : TOK) : Prop := τ.2.2.1 ≤ τ.2.2.2 ∧ τ.2.2.2 ≤ tp.length ∧ (τ.1 ≠ 0 → τ.2.2.1 < τ.2.2.2) ∧ τ.1 < 324 ∧ (τ.1 = 1 → τ.2.1 < 1000) ∧ (300 ≤ τ.1 → τ.2.2.1 + 2 ≤ τ.2.2.2)
theorem kOf_len {w : List Nat} (h : 300 ≤ kOf w) : 2 ≤ w.length := by
  have h2 := kOf_hi w
  have h3 := (kOf_i (w := w) (i := kOf w - 300) (by omega)).mp (by omega)
  have h4 : WL.all (fun u => decide (2 ≤ u.length)) = true := by decide
  exact of_decide_eq_true (List.all_eq_true.mp h4 w (List.mem_of_getElem? h3))
theorem tok_wf {i : Nat} (hi : i ≤ tp.length) (hb : ∀ x ∈ tp, x < 256) : wfT tp (tok tp i) ∧ i ≤ (tok tp i).2.2.1 := by
  have h1 : i + spn bL tp i ≤ tp.length := spn_le hi
  unfold tok
  generalize hp : i + spn bL tp i = p at h1
  have hip : i ≤ p := by omega
  unfold tokAt
  cases e : tp[p]? with
  | none => exact ⟨⟨Nat.le_refl _, h1, fun z => absurd rfl z, (show 0 < 324 by decide), (fun z => nomatch z), fun z => absurd (show 300 ≤ 0 from z) (by decide)⟩, hip⟩
  | some c =>
    have hl := at_lt e
    have hc := hb c (List.mem_of_getElem? e)
    show wfT tp (if lL c = true then _ else if dL c = true then _ else _) ∧ i ≤ (if lL c = true then _ else if dL c = true then _ else _ : TOK).2.2.1
    cases h2 : lL c with
    | true =>
      have h3 : p + spn lL tp p ≤ tp.length := spn_le h1
      have h4 := spn_s e h2
      exact ⟨⟨Nat.le_add_right _ _, h3, fun _ => by show p < p + spn lL tp p; omega, kOf_hi _, fun z => absurd z (kOf_1 _), fun z => by
        have h5 := kOf_len z
        show p + 2 ≤ p + spn lL tp p
        have h6 : spn lL tp p = ((tp.drop p).takeWhile lL).length := rfl
        omega⟩, hip⟩
    | false =>
      cases h5 : dL c with
      | true =>
        have h3 : p + spn dL tp p ≤ tp.length := spn_le h1
        have h4 := spn_s e h5
        refine ⟨⟨Nat.le_add_right _ _, h3, fun _ => by show p < p + spn dL tp p; omega, ?_, fun _ => ?_, fun z => ?_⟩, hip⟩
        · show (if spn dL tp p ≤ 3 then 1 else 2) < 324
          split <;> decide
        · show dVal (((tp.drop p).takeWhile dL).take 3) < 1000
          have := dv_lt (((tp.drop p).takeWhile dL).take 3) (fun x hx => List.all_eq_true.mp (List.all_takeWhile) x (List.mem_of_mem_take hx))
          refine Nat.lt_of_lt_of_le this (Nat.le_trans (Nat.pow_le_pow_right (by decide) (show _ ≤ 3 by rw [List.length_take]; omega)) (by decide))
        · exfalso
          have z' : 300 ≤ (if spn dL tp p ≤ 3 then 1 else 2) := z
          split at z' <;> omega
      | false =>
        refine ⟨⟨Nat.le_add_right _ _, hl, fun _ => Nat.lt_succ_self _, ?_, fun z => ?_, fun z => ?_⟩, hip⟩
        · show (if gL c = true then c else 2) < 324
          split <;> omega
        · exfalso
          have z' : (if gL c = true then c else 2) = 1 := z
          split at z'
          · rename_i hg; rw [z'] at hg; cases hg
          · cases z'
        · exfalso
          have z' : 300 ≤ (if gL c = true then c else 2) := z
          split at z' <;> omega
theorem nx_wf {τ : TOK} (h : wfT tp τ) (hb : ∀ x ∈ tp, x < 256) : wfT tp (nx tp τ) ∧ τ.2.2.2 ≤ (nx tp τ).2.2.1 := tok_wf h.2.1 hb
def tmOf (τ : TOK) : Option Nat := if τ.1 = 1 then some τ.2.1 else if τ.1 = 322 then some 1000 else if τ.1 = 309 then some 1001 else if τ.1 = 317 then some 1002 else if τ.1 = 315 then some 1003 else if τ.1 = 323 then some 1004 else none
def pCmp (tp : List Nat) (τ : TOK) : PR := match tmOf τ with
  | none => .inl τ.2.2.1
  | some l => if 60 ≤ (nx tp τ).1 ∧ (nx tp τ).1 ≤ 62 then (match tmOf (nx tp (nx tp τ)) with
    | none => .inl (nx tp (nx tp τ)).2.2.1
    | some r => .inr ([((nx tp τ).1 - 60, l, r)], nx tp (nx tp (nx tp τ)))) else .inl (nx tp τ).2.2.1
def pOne (tp : List Nat) (E : TOK → PR) (τ : TOK) : PR := if τ.1 = 40 then (match E (nx tp τ) with
    | .inl e => .inl e
    | .inr p => if p.2.1 = 41 then .inr (p.1, nx tp p.2) else .inl p.2.2.2.1) else if τ.1 = 308 then .inr ([(3, 0, 0)], nx tp τ) else pCmp tp τ
def pNeg (tp : List Nat) (E : TOK → PR) (τ : TOK) : PR := if τ.1 = 321 then (match pOne tp E (nx tp τ) with
    | .inl e => .inl e
    | .inr p => .inr (p.1 ++ [(4, 0, 0)], p.2)) else pOne tp E τ
/-- further parts behind the word of kind k, each then put together with the deed d -/
def pMore (tp : List Nat) (k d : Nat) (P : TOK → PR) : Nat → TOK → PR
  | 0, τ => .inr ([], τ)
  | n + 1, τ => if τ.1 = k then (match P (nx tp τ) with
    | .inl e => .inl e
    | .inr p => (match pMore tp k d P n p.2 with
      | .inl e => .inl e
      | .inr p2 => .inr (p.1 ++ (d, 0, 0) :: p2.1, p2.2))) else .inr ([], τ)
def pSeq (tp : List Nat) (k d : Nat) (P : TOK → PR) (τ : TOK) : PR := match P τ with
  | .inl e => .inl e
  | .inr p => (match pMore tp k d P 601 p.2 with
    | .inl e => .inl e
    | .inr p2 => .inr (p.1 ++ p2.1, p2.2))
def pBoth (tp : List Nat) (E : TOK → PR) : TOK → PR := pSeq tp 320 5 (pNeg tp E)
def pEith (tp : List Nat) (E : TOK → PR) : TOK → PR := pSeq tp 319 6 (pBoth tp E)
/-- so many more may be open -/
def pE (tp : List Nat) : Nat → TOK → PR
  | 0, τ => .inl τ.2.2.1
  | o + 1, τ => pEith tp (pE tp o) τ
/-- what is read is in order -/
def OKP (tp : List Nat) (m : Nat) (E : TOK → PR) : Prop := ∀ (τ : TOK) (l : List STP) (τ' : TOK), wfT tp τ → E τ = .inr (l, τ') → wfT tp τ' ∧ τ.2.2.2 ≤ τ'.2.2.1 ∧ τ.2.2.1 + (l.flatMap expS).length ≤ τ'.2.2.1 ∧ (l ≠ [] ∧ τ.2.2.1 + 2 * l.length ≤ τ'.2.2.1) ∧ (∀ x ∈ l, x.1 < 7 ∧ x.2.1 < 1005 ∧ x.2.2 < 1005) ∧ ∀ (h : Nat) (rest : List STP), h + m ≤ 13 → stkS (l ++ rest) h = stkS rest (h + 1)
theorem tm_lt {τ : TOK} {t : Nat} (hw : wfT tp τ) (h : tmOf τ = some t) : t < 1005 ∧ τ.1 ≠ 0 := by
  unfold tmOf at h
  split at h
  · rename_i h1; cases h; have := hw.2.2.2.2.1 h1; exact ⟨by omega, by omega⟩
  · split at h
    · cases h; exact ⟨by decide, by omega⟩
    · split at h
      · cases h; exact ⟨by decide, by omega⟩
      · split at h
        · cases h; exact ⟨by decide, by omega⟩
        · split at h
          · cases h; exact ⟨by decide, by omega⟩
          · split at h
            · cases h; exact ⟨by decide, by omega⟩
            · cases h
theorem ex_len (x : STP) : 1 ≤ (expS x).length ∧ (expS x).length ≤ 3 := by
  unfold expS; split <;> exact ⟨by simp, by simp⟩
theorem ex_one {d : Nat} (h : ¬ d < 3) : (expS (d, 0, 0)).length = 1 := by unfold expS; rw [if_neg h]; rfl
theorem st_lt {d l r h : Nat} {rest : List STP} (hd : d < 4) (hh : h < 13) : stkS ((d, l, r) :: rest) h = stkS rest (h + 1) := by
  show (if d < 4 then (if h < 13 then stkS rest (h + 1) else none) else _) = _
  rw [if_pos hd, if_pos hh]
theorem st_t {h : Nat} {rest : List STP} (hh : 1 ≤ h) : stkS ((4, 0, 0) :: rest) h = stkS rest h := by
  show (if 4 < 4 then _ else if 4 = 4 then (if 1 ≤ h then stkS rest h else none) else _) = _
  rw [if_neg (by decide), if_pos rfl, if_pos hh]
theorem st_b {d h : Nat} {rest : List STP} (hd : 4 < d) (hh : 2 ≤ h) : stkS ((d, 0, 0) :: rest) h = stkS rest (h - 1) := by
  show (if d < 4 then _ else if d = 4 then _ else (if 2 ≤ h then stkS rest (h - 1) else none)) = _
  rw [if_neg (by omega), if_neg (by omega), if_pos hh]
theorem ok_cmp (hb : ∀ x ∈ tp, x < 256) : OKP tp 1 (pCmp tp) := by
  intro τ l τ' hw h
  unfold pCmp at h
  cases h1 : tmOf τ with
  | none => rw [h1] at h; cases h
  | some a =>
    rw [h1] at h
    have h : (if 60 ≤ (nx tp τ).1 ∧ (nx tp τ).1 ≤ 62 then (match tmOf (nx tp (nx tp τ)) with
      | none => .inl (nx tp (nx tp τ)).2.2.1
      | some r => .inr ([((nx tp τ).1 - 60, a, r)], nx tp (nx tp (nx tp τ)))) else .inl (nx tp τ).2.2.1 : PR) = _ := h
    obtain ⟨w1, l1⟩ := nx_wf hw hb
    obtain ⟨w2, l2⟩ := nx_wf w1 hb
    obtain ⟨w3, l3⟩ := nx_wf w2 hb
    obtain ⟨ha, hk0⟩ := tm_lt hw h1
    split at h
    · rename_i hs
      cases h2 : tmOf (nx tp (nx tp τ)) with
      | none => rw [h2] at h; cases h
      | some b =>
        rw [h2] at h
        cases h
        obtain ⟨hb', hk2⟩ := tm_lt w2 h2
        have e0 := hw.2.2.1 hk0
        have e1 := w1.2.2.1 (by omega)
        have e2 := w2.2.2.1 hk2
        refine ⟨w3, by omega, ?_, ⟨(fun z => nomatch z), by show τ.2.2.1 + 2 * 1 ≤ _; omega⟩, ?_, ?_⟩
        · rw [List.flatMap_singleton]
          have := ex_len ((nx tp τ).1 - 60, a, b)
          omega
        · intro x hx
          rw [List.mem_singleton.mp hx]
          exact ⟨by show _ - 60 < 7; omega, ha, hb'⟩
        · intro h' rest hh
          exact st_lt (by omega) (by omega)
    · cases h
theorem ok_one {E : TOK → PR} {m : Nat} (hb : ∀ x ∈ tp, x < 256) (hm : 1 ≤ m) (hE : OKP tp m E) : OKP tp m (pOne tp E) := by
  intro τ l τ' hw h
  obtain ⟨w1, l1⟩ := nx_wf hw hb
  unfold pOne at h
  split at h
  · rename_i hk
    have e0 := hw.2.2.1 (by omega)
    cases h1 : E (nx tp τ) with
    | inl e => rw [h1] at h; cases h
    | inr p =>
      rw [h1] at h
      have h : (if p.2.1 = 41 then .inr (p.1, nx tp p.2) else .inl p.2.2.2.1 : PR) = _ := h
      split at h
      · cases h
        obtain ⟨g1, g2, g3, g4, g5, g6⟩ := hE _ p.1 p.2 w1 h1
        obtain ⟨w2, l2⟩ := nx_wf g1 hb
        have := g1.1
        exact ⟨w2, by have := w1.1; omega, by omega, ⟨g4.1, by have := g4.2; omega⟩, g5, g6⟩
      · cases h
  · split at h
    · rename_i hk
      have e0 := hw.2.2.1 (by omega)
      have e2 := hw.2.2.2.2.2 (by omega)
      cases h
      refine ⟨w1, l1, by rw [List.flatMap_singleton, ex_one (by decide)]; omega, ⟨(fun z => nomatch z), by show τ.2.2.1 + 2 * 1 ≤ _; omega⟩, ?_, ?_⟩
      · intro x hx
        rw [List.mem_singleton.mp hx]
        exact ⟨by decide, by decide, by decide⟩
      · intro h' rest hh
        exact st_lt (by decide) (by omega)
    · obtain ⟨g1, g2, g3, g4, g5, g6⟩ := ok_cmp hb τ l τ' hw h
      exact ⟨g1, g2, g3, g4, g5, fun h' rest hh => g6 h' rest (by omega)⟩
theorem ok_neg {E : TOK → PR} {m : Nat} (hb : ∀ x ∈ tp, x < 256) (hm : 1 ≤ m) (hE : OKP tp m E) : OKP tp m (pNeg tp E) := by
  intro τ l τ' hw h
  obtain ⟨w1, l1⟩ := nx_wf hw hb
  unfold pNeg at h
  split at h
  · rename_i hk
    have e0 := hw.2.2.1 (by omega)
    cases h1 : pOne tp E (nx tp τ) with
    | inl e => rw [h1] at h; cases h
    | inr p =>
      rw [h1] at h
      cases h
      obtain ⟨g1, g2, g3, g4, g5, g6⟩ := ok_one hb hm hE _ p.1 p.2 w1 h1
      have e2 := hw.2.2.2.2.2 (by omega)
      have e4 := g4.2
      refine ⟨g1, by have := w1.1; omega, ?_, ⟨by simp, by rw [List.length_append, List.length_singleton]; omega⟩, ?_, ?_⟩
      · rw [List.flatMap_append, List.length_append, List.flatMap_singleton, ex_one (by decide)]; omega
      · intro x hx
        rcases List.mem_append.mp hx with hx | hx
        · exact g5 x hx
        · rw [List.mem_singleton.mp hx]
          exact ⟨by decide, by decide, by decide⟩
      · intro h' rest hh
        rw [List.append_assoc, g6 h' _ hh]
        exact st_t (by omega)
  · exact ok_one hb hm hE τ l τ' hw h
theorem ok_more {P : TOK → PR} {m k d : Nat} (hb : ∀ x ∈ tp, x < 256) (hk : 300 ≤ k) (hd : 4 < d) (hd7 : d < 7) (hP : OKP tp m P) : ∀ (n : Nat) (τ : TOK) (l : List STP) (τ' : TOK), wfT tp τ → pMore tp k d P n τ = .inr (l, τ') → wfT tp τ' ∧ (τ.2.2.1 + (l.flatMap expS).length ≤ τ'.2.2.1 ∧ τ.2.2.1 + 2 * l.length ≤ τ'.2.2.1) ∧ (∀ x ∈ l, x.1 < 7 ∧ x.2.1 < 1005 ∧ x.2.2 < 1005) ∧ ∀ (h : Nat) (rest : List STP), h + 1 + m ≤ 13 → stkS (l ++ rest) (h + 1) = stkS rest (h + 1) := by
  intro n
  induction n with
  | zero =>
    intro τ l τ' hw h
    cases h
    exact ⟨hw, ⟨Nat.le_refl _, Nat.le_refl _⟩, (fun x hx => nomatch hx), (fun _ _ _ => rfl)⟩
  | succ n ih =>
    intro τ l τ' hw h
    unfold pMore at h
    split at h
    · rename_i hk'
      have e0 := hw.2.2.1 (by omega)
      obtain ⟨w1, l1⟩ := nx_wf hw hb
      cases h1 : P (nx tp τ) with
      | inl e => rw [h1] at h; cases h
      | inr p =>
        rw [h1] at h
        cases h2 : pMore tp k d P n p.2 with
        | inl e =>
          have h : (match pMore tp k d P n p.2 with
            | .inl e => .inl e
            | .inr p2 => .inr (p.1 ++ (d, 0, 0) :: p2.1, p2.2) : PR) = _ := h
          rw [h2] at h; cases h
        | inr p2 =>
          have h : (match pMore tp k d P n p.2 with
            | .inl e => .inl e
            | .inr p2 => .inr (p.1 ++ (d, 0, 0) :: p2.1, p2.2) : PR) = _ := h
          rw [h2] at h
          cases h
          obtain ⟨g1, g2, g3, g4, g5, g6⟩ := hP _ p.1 p.2 w1 h1
          obtain ⟨i1, i3, i5, i6⟩ := ih p.2 p2.1 p2.2 g1 h2
          have e2 := hw.2.2.2.2.2 (by omega)
          have e4 := g4.2
          refine ⟨i1, ⟨?_, ?_⟩, ?_, ?_⟩
          · rw [List.flatMap_append, List.length_append, List.flatMap_cons, List.length_append, ex_one (by omega)]; omega
          · rw [List.length_append, List.length_cons]; omega
          · intro x hx
            rcases List.mem_append.mp hx with hx | hx
            · exact g5 x hx
            · rcases List.mem_cons.mp hx with rfl | hx
              · exact ⟨hd7, (show 0 < 1005 by decide), (show 0 < 1005 by decide)⟩
              · exact i5 x hx
          · intro h' rest hh
            rw [List.append_assoc, g6 (h' + 1) _ hh]
            show stkS ((d, 0, 0) :: (p2.1 ++ rest)) (h' + 1 + 1) = _
            rw [st_b hd (by omega)]
            exact i6 h' rest hh
    · cases h
      exact ⟨hw, ⟨Nat.le_refl _, Nat.le_refl _⟩, (fun x hx => nomatch hx), (fun _ _ _ => rfl)⟩
theorem ok_seq {P : TOK → PR} {m k d : Nat} (hb : ∀ x ∈ tp, x < 256) (hk : 300 ≤ k) (hd : 4 < d) (hd7 : d < 7) (hP : OKP tp m P) : OKP tp (m + 1) (pSeq tp k d P) := by
  intro τ l τ' hw h
  unfold pSeq at h
  cases h1 : P τ with
  | inl e => rw [h1] at h; cases h
  | inr p =>
    rw [h1] at h
    have h : (match pMore tp k d P 601 p.2 with
      | .inl e => .inl e
      | .inr p2 => .inr (p.1 ++ p2.1, p2.2) : PR) = _ := h
    cases h2 : pMore tp k d P 601 p.2 with
    | inl e => rw [h2] at h; cases h
    | inr p2 =>
      rw [h2] at h
      cases h
      obtain ⟨g1, g2, g3, g4, g5, g6⟩ := hP _ p.1 p.2 hw h1
      obtain ⟨i1, i3, i5, i6⟩ := ok_more hb hk hd hd7 hP 601 p.2 p2.1 p2.2 g1 h2
      have e4 := g4.2
      refine ⟨i1, by omega, ?_, ⟨fun z => g4.1 (List.append_eq_nil_iff.mp z).1, by rw [List.length_append]; omega⟩, ?_, ?_⟩
      · rw [List.flatMap_append, List.length_append]; omega
      · intro x hx
        rcases List.mem_append.mp hx with hx | hx
        · exact g5 x hx
        · exact i5 x hx
      · intro h' rest hh
        rw [List.append_assoc, g6 h' _ (by omega)]
        exact i6 h' rest (by omega)
theorem ok_E (hb : ∀ x ∈ tp, x < 256) : ∀ o, OKP tp (2 * o + 1) (pE tp o) := by
  intro o
  induction o with
  | zero => intro τ l τ' _ h; cases h
  | succ o ih =>
    have h1 := ok_seq (k := 320) (d := 5) hb (by decide) (by decide) (by decide) (ok_neg hb (by omega) ih)
    have h2 := ok_seq (k := 319) (d := 6) hb (by decide) (by decide) (by decide) h1
    exact h2
end PRS
