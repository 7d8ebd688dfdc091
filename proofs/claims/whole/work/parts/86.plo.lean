/-! the text read: what a line's reading promises -/
section PLO
variable {tp : List Nat}
theorem bdr_r {α β : Type} {x : Nat ⊕ α} {f : α → Nat ⊕ β} {y : β} (h : bdr x f = .inr y) : ∃ a, x = .inr a ∧ f a = .inr y := by
  cases x with
  | inl e => cases h
  | inr a => exact ⟨a, rfl, h⟩
theorem bdr_l {α β : Type} {x : Nat ⊕ α} {f : α → Nat ⊕ β} {e : Nat} (h : bdr x f = .inl e) : x = .inl e ∨ ∃ a, x = .inr a ∧ f a = .inl e := by
  cases x with
  | inl e' => cases h; exact Or.inl rfl
  | inr a => exact Or.inr ⟨a, rfl, h⟩
/-- a stage: the token moves on, notes are kept -/
def okS' (tp : List Nat) (s s' : SN) : Prop := wfT tp s'.2 ∧ s.2.2.2.1 ≤ s'.2.2.2.1 ∧ (s'.1 = none → s.1 = none)
theorem okS'.tr {s s' s2 : SN} (h : okS' tp s s') (h2 : okS' tp s' s2) : okS' tp s s2 := ⟨h2.1, Nat.le_trans h.2.1 h2.2.1, fun z => h.2.2 (h2.2.2 z)⟩
theorem nx_st {τ : TOK} (h : wfT tp τ) (hb : ∀ x ∈ tp, x < 256) : wfT tp (nx tp τ) ∧ τ.2.2.1 ≤ (nx tp τ).2.2.1 ∧ (τ.1 ≠ 0 → τ.2.2.1 < (nx tp τ).2.2.1) := by
  obtain ⟨w1, w2⟩ := nx_wf h hb
  have := h.1
  exact ⟨w1, by omega, fun z => by have := h.2.2.1 z; omega⟩
theorem nx_sw {τ : TOK} (h : wfT tp τ) (hb : ∀ x ∈ tp, x < 256) (h3 : 300 ≤ τ.1) : τ.2.2.1 + 2 ≤ (nx tp τ).2.2.1 := by
  obtain ⟨w1, w2⟩ := nx_wf h hb
  have := h.2.2.2.2.2 h3
  omega
theorem ch_ok {a b x : Nat} {s s' : SN} (hb : ∀ x ∈ tp, x < 256) (hw : wfT tp s.2) (h : sCh tp a b s = .inr (x, s')) : okS' tp s s' ∧ (a ≤ s.2.1 ∧ s.2.1 ≤ b ∧ x = s.2.1 - a) ∧ s'.1 = s.1 ∧ s'.2 = nx tp s.2 := by
  unfold sCh at h
  split at h
  · rename_i hc
    have h := Sum.inr.inj h
    rw [Prod.mk.injEq] at h
    obtain ⟨h1, h2⟩ := h
    subst h2
    have := nx_st hw hb
    exact ⟨⟨this.1, this.2.1, fun z => z⟩, ⟨hc.1, hc.2, h1.symm⟩, rfl, rfl⟩
  · cases h
theorem nte_n {n : NT} {c p : Nat} : nte n c p ≠ none := by
  unfold nte; cases n <;> exact fun z => (nomatch z)
theorem num_ok {t : Option Nat} {x : Nat} {s s' : SN} (hb : ∀ x ∈ tp, x < 256) (hw : wfT tp s.2) (ht : ∀ b, t = some b → b < 16) (h : sNum tp t s = .inr (x, s')) : okS' tp s s' ∧ (s'.1 = none → x < 16) := by
  cases t with
  | none => cases h; exact ⟨⟨hw, Nat.le_refl _, fun z => z⟩, fun _ => by decide⟩
  | some b =>
    have hb16 := ht b rfl
    have h : (if s.2.1 = 1 then .inr (s.2.2.1, (if s.2.2.1 ≤ b then s.1 else nte s.1 2 s.2.2.2.1), nx tp s.2) else .inl s.2.2.2.1 : Nat ⊕ (Nat × SN)) = .inr (x, s') := h
    split at h
    · have h := Sum.inr.inj h
      rw [Prod.mk.injEq] at h
      obtain ⟨h1, h2⟩ := h
      subst h2
      have := nx_st hw hb
      refine ⟨⟨this.1, this.2.1, fun z => ?_⟩, fun z => ?_⟩
      · have z : (if s.2.2.1 ≤ b then s.1 else nte s.1 2 s.2.2.2.1) = none := z
        split at z
        · exact z
        · exact absurd z nte_n
      · have z : (if s.2.2.1 ≤ b then s.1 else nte s.1 2 s.2.2.2.1) = none := z
        split at z
        · omega
        · exact absurd z nte_n
    · cases h
theorem what_ok {x : Nat} {s s' : SN} (hb : ∀ x ∈ tp, x < 256) (hw : wfT tp s.2) (h : sWhat tp s = .inr (x, s')) : okS' tp s s' ∧ x < 4 := by
  unfold sWhat at h
  have := nx_st hw hb
  split at h
  · cases h; exact ⟨⟨this.1, this.2.1, fun z => z⟩, by decide⟩
  · split at h
    · rename_i hc
      have h := Sum.inr.inj h
      rw [Prod.mk.injEq] at h
      obtain ⟨h1, h2⟩ := h
      subst h2
      exact ⟨⟨this.1, this.2.1, fun z => z⟩, by omega⟩
    · cases h
theorem when_ok {l : List STP} {s s' : SN} (hb : ∀ x ∈ tp, x < 256) (hw : wfT tp s.2) (h : sWhen tp s = .inr (l, s')) : okS' tp s s' ∧ (l = [] ∨ stkS l 0 = some 1) ∧ (∀ x ∈ l, x.1 < 7 ∧ x.2.1 < 1005 ∧ x.2.2 < 1005) ∧ 2 * l.length ≤ s'.2.2.2.1 ∧ (l = [] → s' = s) ∧ (l ≠ [] → s.2.2.2.1 + (l.flatMap expS).length + 2 ≤ s'.2.2.2.1) := by
  unfold sWhen at h
  split at h
  · rename_i hk
    have w1 := nx_st hw hb
    have w2 := nx_sw hw hb (by omega)
    cases hp' : pE tp 6 (nx tp s.2) with
    | inl e => rw [hp'] at h; cases h
    | inr p =>
      rw [hp'] at h
      cases h
      obtain ⟨g1, g2, g3, g4, g5, g6⟩ := ok_E hb 6 _ p.1 p.2 w1.1 hp'
      have e := g6 0 [] (by decide)
      rw [List.append_nil] at e
      refine ⟨⟨g1, ?_, fun z => z⟩, Or.inr e, g5, ?_, fun z => absurd z g4.1, fun _ => ?_⟩
      · show s.2.2.2.1 ≤ p.2.2.2.1
        omega
      · have := g4.2
        show 2 * p.1.length ≤ p.2.2.2.1
        omega
      · show s.2.2.2.1 + (p.1.flatMap expS).length + 2 ≤ p.2.2.2.1
        omega
  · cases h
    exact ⟨⟨hw, Nat.le_refl _, fun z => z⟩, Or.inl rfl, fun x hx => (nomatch hx), Nat.zero_le _, fun _ => rfl, fun z => absurd rfl z⟩
theorem need_ok {k : Nat} {s s' : SN} (hb : ∀ x ∈ tp, x < 256) (hw : wfT tp s.2) (h : sNeed tp k s = .inr s') : okS' tp s s' ∧ s'.1 = s.1 := by
  unfold sNeed at h
  split at h
  · cases h
    have := nx_st hw hb
    exact ⟨⟨this.1, this.2.1, fun z => z⟩, rfl⟩
  · cases h
/-- a line that was read -/
theorem pl_ok {c : Nat} {s : SN} {x : LNV × SN} (hb : ∀ x ∈ tp, x < 256) (hlen : tp.length ≤ 600) (hw : wfT tp s.2) (h : pLine tp c s = .inr x) : wfT tp x.2.2 ∧ s.2.2.2.1 < x.2.2.2.2.1 ∧ (x.1.2.2.2.2.2.2 ≠ [] → s.2.2.2.1 + (mcode x.1.2.2.2.2.2.2).length ≤ x.2.2.2.2.1) ∧ (x.2.1 = none → s.1 = none ∧ c < 12 ∧ WLn x.1) ∧ x.1.1 < 2 := by
  unfold pLine at h
  obtain ⟨⟨v1, s1⟩, e1, h⟩ := bdr_r h
  obtain ⟨⟨v2, s2⟩, e2, h⟩ := bdr_r h
  obtain ⟨⟨v3, s3⟩, e3, h⟩ := bdr_r h
  obtain ⟨⟨v4, s4⟩, e4, h⟩ := bdr_r h
  obtain ⟨⟨v5, s5⟩, e5, h⟩ := bdr_r h
  obtain ⟨⟨v6, s6⟩, e6, h⟩ := bdr_r h
  obtain ⟨⟨l, s7⟩, e7, h⟩ := bdr_r h
  obtain ⟨s8, e8, h⟩ := bdr_r h
  obtain ⟨o1, g1, n1, t1⟩ := ch_ok (s := ((if 12 ≤ c then nte s.1 3 s.2.2.2.1 else s.1), s.2)) hb hw e1
  have hst : s.2.2.2.1 < s1.2.2.2.1 := by
    rw [t1]
    exact (nx_st hw hb).2.2 (by have := g1.1; show s.2.1 ≠ 0; have : 303 ≤ s.2.1 := g1.1; omega)
  obtain ⟨o2, g2, n2, t2⟩ := ch_ok hb o1.1 e2
  obtain ⟨o3, g3⟩ := num_ok hb o2.1 (fun b z => top_lt (Or.inl z)) e3
  obtain ⟨o4, g4, n4, t4⟩ := ch_ok hb o3.1 e4
  obtain ⟨o5, g5⟩ := what_ok hb o4.1 e5
  obtain ⟨o6, g6⟩ := num_ok hb o5.1 (fun b z => top_lt (Or.inr z)) e6
  obtain ⟨o7, g7, g7b, g7c, g7d, g7e⟩ := when_ok hb o6.1 e7
  obtain ⟨o8, n8⟩ := need_ok hb o7.1 e8
  have hx := (Sum.inr.inj h).symm
  subst hx
  have q2 := o2.2.1
  have q3 := o3.2.1
  have q4 := o4.2.1
  have q5 := o5.2.1
  have q6 := o6.2.1
  have q7 := o7.2.1
  have q8 := o8.2.1
  refine ⟨o8.1, by show s.2.2.2.1 < s8.2.2.2.1; omega, fun hne => ?_, fun hn => ?_, by show v1 < 2; omega⟩
  · have := g7e hne
    show s.2.2.2.1 + (mcode l).length ≤ s8.2.2.2.1
    unfold mcode
    rw [List.length_append, List.length_singleton]
    omega
  · have m7 := o8.2.2 hn
    have m6 := o7.2.2 m7
    have m5 := o6.2.2 m6
    have m4 := o5.2.2 m5
    have m3 := o4.2.2 m4
    have m2 := o3.2.2 m3
    have m1 := o2.2.2 m2
    have m0 : (if 12 ≤ c then nte s.1 3 s.2.2.2.1 else s.1) = none := o1.2.2 m1
    have hc : ¬ 12 ≤ c := fun z => by rw [if_pos z] at m0; exact nte_n m0
    rw [if_neg hc] at m0
    refine ⟨m0, by omega, by show v1 < 2; omega, by show v2 < 5; omega, g3 m3, by show v4 < 5; omega, g5, g6 m6, ?_, g7, g7b⟩
    have := o7.1.1
    have := o7.1.2.1
    show l.length < 600
    omega
theorem pl_nx {c : Nat} {s : SN} {x : LNV × SN} (hb : ∀ x ∈ tp, x < 256) (hw : wfT tp s.2) (h : pLine tp c s = .inr x) : s.2.2.2.2 < x.2.2.2.2.2 := by
  unfold pLine at h
  obtain ⟨⟨v1, s1⟩, e1, h⟩ := bdr_r h
  obtain ⟨⟨v2, s2⟩, e2, h⟩ := bdr_r h
  obtain ⟨⟨v3, s3⟩, e3, h⟩ := bdr_r h
  obtain ⟨⟨v4, s4⟩, e4, h⟩ := bdr_r h
  obtain ⟨⟨v5, s5⟩, e5, h⟩ := bdr_r h
  obtain ⟨⟨v6, s6⟩, e6, h⟩ := bdr_r h
  obtain ⟨⟨l, s7⟩, e7, h⟩ := bdr_r h
  obtain ⟨s8, e8, h⟩ := bdr_r h
  obtain ⟨o1, g1, n1, t1⟩ := ch_ok (s := ((if 12 ≤ c then nte s.1 3 s.2.2.2.1 else s.1), s.2)) hb hw e1
  obtain ⟨o2, g2, n2, t2⟩ := ch_ok hb o1.1 e2
  obtain ⟨o3, g3⟩ := num_ok hb o2.1 (fun b z => top_lt (Or.inl z)) e3
  obtain ⟨o4, g4, n4, t4⟩ := ch_ok hb o3.1 e4
  obtain ⟨o5, g5⟩ := what_ok hb o4.1 e5
  obtain ⟨o6, g6⟩ := num_ok hb o5.1 (fun b z => top_lt (Or.inr z)) e6
  obtain ⟨o7, g7, g7b, g7c, g7d, g7e⟩ := when_ok hb o6.1 e7
  obtain ⟨o8, n8⟩ := need_ok hb o7.1 e8
  have hx := (Sum.inr.inj h).symm
  subst hx
  have q1 : s.2.2.2.2 ≤ s1.2.2.2.1 := by rw [t1]; exact (nx_wf hw hb).2
  have q2 : s1.2.2.2.1 < s2.2.2.2.1 := by rw [t2]; exact (nx_st o1.1 hb).2.2 (by omega)
  have q3 := o3.2.1
  have q4 := o4.2.1
  have q5 := o5.2.1
  have q6 := o6.2.1
  have q7 := o7.2.1
  have q8 := o8.2.1
  have q9 := o8.1.1
  show s.2.2.2.2 < s8.2.2.2.2
  omega
end PLO
