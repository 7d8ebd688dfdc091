/-! what LINES HOLD: an ASK's case, its 'when' for all hours at once; the class's Trial -/
/-- person, ACT, THING, GROUPS, CLEARANCE, KIND, LEVEL, whether one is the OWNER -/
abbrev EV : Type := Nat × Nat × Nat × Nat × Nat × Nat × Nat × Bool
abbrev e_p (e : EV) : Nat := e.1
abbrev e_a (e : EV) : Nat := e.2.1
abbrev e_t (e : EV) : Nat := e.2.2.1
abbrev e_g (e : EV) : Nat := e.2.2.2.1
abbrev e_c (e : EV) : Nat := e.2.2.2.2.1
abbrev e_k (e : EV) : Nat := e.2.2.2.2.2.1
abbrev e_l (e : EV) : Nat := e.2.2.2.2.2.2.1
abbrev e_o (e : EV) : Bool := e.2.2.2.2.2.2.2
def WEv (e : EV) : Prop := e_p e < 16 ∧ e_a e < 4 ∧ e_t e < 16 ∧ e_g e < 256 ∧ e_c e < 6 ∧ e_k e < 8 ∧ e_l e < 6
def pcN (g : Nat) : Nat := (List.range 8).countP fun i => g.testBit i
def vS (e : EV) (h t : Nat) : Nat := if t = 1000 then h else if t = 1001 then e_c e else if t = 1002 then e_l e else if t = 1003 then e_k e else if t = 1004 then pcN (e_g e) else t
def cmpS (d a b : Nat) : Bool := if d = 0 then decide (a < b) else if d = 1 then decide (a = b) else decide (b < a)
/-- a step over a stack of sets of hours, the top first -/
def stF (e : EV) (x : Nat × Nat × Nat) (st : List (Nat → Bool)) : List (Nat → Bool) :=
  if x.1 < 3 then (fun h => cmpS x.1 (vS e h x.2.1) (vS e h x.2.2)) :: st
  else if x.1 = 3 then (fun _ => e_o e) :: st
  else if x.1 = 4 then match st with
    | a :: s => (fun h => !(a h)) :: s
    | [] => []
  else match st with
    | a :: b :: s => (fun h => if x.1 = 5 then (a h && b h) else (a h || b h)) :: s
    | s => s
def evF (e : EV) : List (Nat × Nat × Nat) → List (Nat → Bool) → List (Nat → Bool)
  | [], st => st
  | x :: l, st => evF e l (stF e x st)
def whoB (e : EV) (l : LNV) : Bool := if l.2.1 = 0 then true else if l.2.1 = 1 then (e_g e).testBit l.2.2.1 else if l.2.1 = 2 then e_p e == l.2.2.1 else if l.2.1 = 3 then e_o e else decide (l.2.2.1 ≤ e_c e)
def actB (e : EV) (l : LNV) : Bool := l.2.2.2.1 == 4 || l.2.2.2.1 == e_a e
def whatB (e : EV) (l : LNV) : Bool := if l.2.2.2.2.1 = 0 then true else if l.2.2.2.2.1 = 1 then e_k e == l.2.2.2.2.2.1 else if l.2.2.2.2.1 = 2 then e_t e == l.2.2.2.2.2.1 else decide (l.2.2.2.2.2.1 ≤ e_l e)
def whenB (e : EV) (h : Nat) (w : List (Nat × Nat × Nat)) : Bool := w.isEmpty || (evF e w []).headD (fun _ => false) h
/-- the LINE HOLDS -/
def hldB (e : EV) (h : Nat) (l : LNV) : Bool := whoB e l && (actB e l && (whatB e l && whenB e h l.2.2.2.2.2.2))
def b01 (b : Bool) : Int32 := cond b 1 0
theorem zd_b (b : Bool) : zd (some (b01 b)) = some (b01 b) := by cases b <;> rfl
theorem zc_b (b : Bool) (A : LH) : zc (some (b01 b, A)) = some (b01 b, A) := by cases b <;> rfl
theorem b01_0 {b : Bool} : b01 b = 0 ↔ b = false := by cases b <;> decide
theorem b01_1 {b : Bool} : b01 b = 1 ↔ b = true := by cases b <;> decide
theorem if_eqb {a b : Nat} (ha : a < 2 ^ 31) (hb : b < 2 ^ 31) : (if nI a = nI b then some (1 : Int32) else some 0) = some (b01 (a == b)) := by
  by_cases q : a = b
  · subst q; rw [if_pos rfl, show (a == a) = true by simp]; rfl
  · rw [if_neg (fun z => q ((nI_eq ha hb).mp z)), show (a == b) = false by simp [q]]; rfl
theorem if_ltb {a b : Nat} (ha : a < 2 ^ 31) (hb : b < 2 ^ 31) : (if nI a < nI b then some (0 : Int32) else some 1) = some (b01 (decide (b ≤ a))) := by
  by_cases q : a < b
  · rw [if_pos (nI_lt q hb), show decide (b ≤ a) = false by simp; omega]; rfl
  · rw [if_neg (nI_nlt (by omega) ha), show decide (b ≤ a) = true by simp; omega]; rfl
theorem bc_8 : ∀ g, g < 256 → f_J6_bitCount_0f7a4 (nI g) = some (nI (pcN g)) := by decide +kernel
theorem pcN_8 : ∀ g, g < 256 → pcN g < 9 := by decide +kernel
theorem bt_alh : ∀ j, j < 32 → bt 16777215 j = decide (j < 24) := by decide +kernel
theorem bt_bel : ∀ v, v < 24 → ∀ j, j < 32 → bt (((1 : Int32) <<< (nI v &&& 31)) - 1) j = decide (j < v) := by decide +kernel
