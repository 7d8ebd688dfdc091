/-! the text taken apart: what both do; how the class does it -/
def sg (tp : List Nat) (i : Nat) : Int32 := match tp[i]? with
  | some x => nI x
  | none => -1
def bL (c : Nat) : Bool := c == 32 || c == 10
def lL (c : Nat) : Bool := decide (97 ≤ c ∧ c ≤ 122)
def dL (c : Nat) : Bool := decide (48 ≤ c ∧ c ≤ 57)
def gL (c : Nat) : Bool := c == 59 || (c == 40 || (c == 41 || (c == 60 || (c == 61 || c == 62))))
def spn (p : Nat → Bool) (tp : List Nat) (i : Nat) : Nat := ((tp.drop i).takeWhile p).length
theorem sg_s {tp : List Nat} {i c : Nat} (h : tp[i]? = some c) : sg tp i = nI c := by unfold sg; rw [h]
theorem sg_n {tp : List Nat} {i : Nat} (h : tp[i]? = none) : sg tp i = -1 := by unfold sg; rw [h]
theorem dr_s {tp : List Nat} {i c : Nat} (h : tp[i]? = some c) : tp.drop i = c :: tp.drop (i + 1) := by
  have hl := at_lt h
  rw [List.drop_eq_getElem_cons hl]
  rw [List.getElem?_eq_getElem hl] at h
  rw [Option.some.inj h]
theorem dr_n {tp : List Nat} {i : Nat} (h : tp[i]? = none) : tp.drop i = [] := List.drop_eq_nil_of_le (List.getElem?_eq_none_iff.mp h)
theorem spn_s {p : Nat → Bool} {tp : List Nat} {i c : Nat} (h : tp[i]? = some c) (hp : p c = true) : spn p tp i = spn p tp (i + 1) + 1 := by
  unfold spn; rw [dr_s h, List.takeWhile_cons_of_pos hp]; rfl
theorem spn_f {p : Nat → Bool} {tp : List Nat} {i c : Nat} (h : tp[i]? = some c) (hp : p c = false) : spn p tp i = 0 := by
  unfold spn; rw [dr_s h, List.takeWhile_cons_of_neg (by rw [hp]; decide)]; rfl
theorem spn_e {p : Nat → Bool} {tp : List Nat} {i : Nat} (h : tp[i]? = none) : spn p tp i = 0 := by
  unfold spn; rw [dr_n h]; rfl
theorem spn_0 {p : Nat → Bool} {tp : List Nat} {i : Nat} (h : spn p tp i = 0) : tp[i]? = none ∨ ∃ c, tp[i]? = some c ∧ p c = false := by
  cases e : tp[i]? with
  | none => exact Or.inl rfl
  | some c =>
    refine Or.inr ⟨c, rfl, ?_⟩
    cases hp : p c with
    | false => rfl
    | true => rw [spn_s e hp] at h; cases h
theorem spn_1 {p : Nat → Bool} {tp : List Nat} {i n : Nat} (h : spn p tp i = n + 1) : ∃ c, tp[i]? = some c ∧ p c = true ∧ spn p tp (i + 1) = n := by
  cases e : tp[i]? with
  | none => rw [spn_e e] at h; cases h
  | some c =>
    cases hp : p c with
    | false => rw [spn_f e hp] at h; cases h
    | true => rw [spn_s e hp] at h; exact ⟨c, rfl, hp, by omega⟩
theorem spn_le {p : Nat → Bool} {tp : List Nat} {i : Nat} (h : i ≤ tp.length) : i + spn p tp i ≤ tp.length := by
  unfold spn
  have := (List.takeWhile_sublist p (l := tp.drop i)).length_le
  rw [List.length_drop] at this
  omega
theorem spn_end {p : Nat → Bool} {tp : List Nat} : ∀ (n i : Nat), spn p tp i = n → tp[i + n]? = none ∨ ∃ c, tp[i + n]? = some c ∧ p c = false := by
  intro n
  induction n with
  | zero => intro i h; exact spn_0 h
  | succ n ih =>
    intro i h
    obtain ⟨c, h1, h2, h3⟩ := spn_1 h
    have := ih (i + 1) h3
    rw [show i + 1 + n = i + (n + 1) by omega] at this
    exact this
/-- the text of the words -/
def wTx : List Nat := [98,121,32,102,105,114,115,116,32,108,97,115,116,32,115,116,111,112,32,108,101,116,32,97,108,108,32,103,114,111,117,112,32,111,110,101,32,111,119,110,101,114,32,99,108,101,97,114,32,114,101,97,100,32,119,114,105,116,101,32,115,104,97,114,101,32,100,114,111,112,32,97,110,121,32,107,105,110,100,32,116,104,105,110,103,32,108,101,118,101,108,32,119,104,101,110,32,111,114,32,97,110,100,32,110,111,116,32,104,111,117,114,32,103,114,111,117,112,115,32]
/-- the word w looked up: what is left of it while all so far is alike -/
def kw (w : List Nat) : List Nat → Nat → Option (List Nat) → Nat
  | [], _, _ => 2
  | c :: t, f, r => if c = 32 then (if r = some [] then f else kw w t (f + 1) (some w)) else kw w t f (match r with
    | some (x :: r') => if x = c then some r' else none
    | _ => none)
def kOf (w : List Nat) : Nat := kw w wTx 300 (some w)
def dVal (l : List Nat) : Nat := l.foldl (fun a c => a * 10 + (c - 48)) 0
/-- a token: its kind, its number, its place, where the next may begin -/
abbrev TOK := Nat × Nat × Nat × Nat
def tokAt (tp : List Nat) (p : Nat) : TOK := match tp[p]? with
  | none => (0, 0, p, p)
  | some c => if lL c = true then (kOf ((tp.drop p).takeWhile lL), 0, p, p + spn lL tp p) else if dL c = true then (if spn dL tp p ≤ 3 then 1 else 2, dVal (((tp.drop p).takeWhile dL).take 3), p, p + spn dL tp p) else (if gL c = true then c else 2, 0, p, p + 1)
def tok (tp : List Nat) (i : Nat) : TOK := tokAt tp (i + spn bL tp i)
section TOKA
variable {c : Nat}
theorem isBl (h : c < 256) : f_X7_isBlank (nI c) = some (b01 (bL c)) := by
  have hb : c < 2 ^ 31 := by omega
  have e1 := nI_eq hb (show 32 < 2 ^ 31 by decide)
  have e2 := nI_eq hb (show 10 < 2 ^ 31 by decide)
  rw [show nI 32 = 32 by decide] at e1
  rw [show nI 10 = 10 by decide] at e2
  unfold f_X7_isBlank b_X7_isBlank bL
  by_cases h1 : c = 32
  · rw [if_pos (e1.mpr h1), h1]; rfl
  · rw [if_neg (fun z => h1 (e1.mp z))]
    by_cases h2 : c = 10
    · rw [if_pos (e2.mpr h2), h2]; rfl
    · rw [if_neg (fun z => h2 (e2.mp z)), beq_eq_false_iff_ne.mpr h1, beq_eq_false_iff_ne.mpr h2]; rfl
theorem rng {a b c : Nat} (hb : b < 256) (h : c < 256) (ha : a < 256) : (if nI c < nI a then some (0 : Int32) else if nI b < nI c then some (0 : Int32) else some (1 : Int32)) = some (b01 (decide (a ≤ c ∧ c ≤ b))) := by
  by_cases h1 : a ≤ c
  · rw [if_neg (nI_nlt h1 (by omega))]
    by_cases h2 : c ≤ b
    · rw [if_neg (nI_nlt h2 (by omega)), decide_eq_true ⟨h1, h2⟩]; rfl
    · rw [if_pos (nI_lt (by omega) (by omega)), decide_eq_false (fun z => h2 z.2)]; rfl
  · rw [if_pos (nI_lt (by omega) (by omega)), decide_eq_false (fun z => h1 z.1)]; rfl
theorem isLt (h : c < 256) : f_X7_isLetter (nI c) = some (b01 (lL c)) := by
  unfold f_X7_isLetter b_X7_isLetter lL
  have := rng (a := 97) (b := 122) (by decide) h (by decide)
  rw [show nI 97 = 97 by decide, show nI 122 = 122 by decide] at this
  rw [this, zd_b]
theorem isDg (h : c < 256) : f_X7_isDigit (nI c) = some (b01 (dL c)) := by
  unfold f_X7_isDigit b_X7_isDigit dL
  have := rng (a := 48) (b := 57) (by decide) h (by decide)
  rw [show nI 48 = 48 by decide, show nI 57 = 57 by decide] at this
  rw [this, zd_b]
theorem isSg (h : c < 256) : f_X7_isSign (nI c) = some (b01 (gL c)) := by
  have hb : c < 2 ^ 31 := by omega
  have e (k : Nat) (hk : k < 256) : ¬ c = k → ¬ nI c = nI k := fun h1 z => h1 ((nI_eq hb (by omega)).mp z)
  unfold f_X7_isSign b_X7_isSign gL
  by_cases h1 : c = 59
  · rw [h1]; rfl
  · rw [if_neg (show ¬ nI c = 59 from e 59 (by decide) h1), beq_eq_false_iff_ne.mpr h1]
    by_cases h2 : c = 40
    · rw [h2]; rfl
    · rw [if_neg (show ¬ nI c = 40 from e 40 (by decide) h2), beq_eq_false_iff_ne.mpr h2]
      by_cases h3 : c = 41
      · rw [h3]; rfl
      · rw [if_neg (show ¬ nI c = 41 from e 41 (by decide) h3), beq_eq_false_iff_ne.mpr h3]
        by_cases h4 : c = 60
        · rw [h4]; rfl
        · rw [if_neg (show ¬ nI c = 60 from e 60 (by decide) h4), beq_eq_false_iff_ne.mpr h4]
          by_cases h5 : c = 61
          · rw [h5]; rfl
          · rw [if_neg (show ¬ nI c = 61 from e 61 (by decide) h5), beq_eq_false_iff_ne.mpr h5]
            by_cases h6 : c = 62
            · rw [h6]; rfl
            · rw [if_neg (show ¬ nI c = 62 from e 62 (by decide) h6), beq_eq_false_iff_ne.mpr h6]; rfl
end TOKA
