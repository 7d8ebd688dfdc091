/-! what both sides stand for: a state of pure values; how the class's C, T and the reference's M stand for it -/
/-- a LINE: let (1) or stop (0), WHO, its NUMBER, ACT, WHAT, its NUMBER, the steps of its 'when' (none: []) -/
abbrev LNV : Type := Nat × Nat × Nat × Nat × Nat × Nat × List (Nat × Nat × Nat)
/-- RULES: how they decide, their LINES -/
abbrev RSV : Type := Nat × List LNV
/-- PEOPLE, THINGS, THE BOOK, SLOTS -/
abbrev TLD : Type := List (Nat × Nat) × List (Nat × Nat × Nat) × List (Nat × Nat × Nat × Nat × Int32) × (Nat → RSV)
/-- the tape, all that is told, images, the FAULT, the MEND at hand (its SLOT, its CHANGES, whether the RULES are still those) -/
abbrev SG : Type := List Nat × TLD × (Nat → Option TLD) × (Int32 × Int32) × Option (Nat × List (Nat × Nat) × Bool)
abbrev s_tape (S : SG) : List Nat := S.1
abbrev s_told (S : SG) : TLD := S.2.1
abbrev s_img (S : SG) : Nat → Option TLD := S.2.2.1
abbrev s_flt (S : SG) : Int32 × Int32 := S.2.2.2.1
abbrev s_mend (S : SG) : Option (Nat × List (Nat × Nat) × Bool) := S.2.2.2.2
abbrev t_ppl (t : TLD) : List (Nat × Nat) := t.1
abbrev t_thg (t : TLD) : List (Nat × Nat × Nat) := t.2.1
abbrev t_bk (t : TLD) : List (Nat × Nat × Nat × Nat × Int32) := t.2.2.1
abbrev t_sl (t : TLD) : Nat → RSV := t.2.2.2
/-- the three tables of a Told, as rows of numbers -/
def RTab (t : TLD) (np nt na : Int32) (fp ft fa : Nat → Int32) : Prop :=
  np = nI (t_ppl t).length ∧ nt = nI (t_thg t).length ∧ na = nI (t_bk t).length ∧
  (∀ (i : Nat) (p : Nat × Nat), (t_ppl t)[i]? = some p → fp (i * 2) = nI p.1 ∧ fp (i * 2 + 1) = nI p.2) ∧
  (∀ (i : Nat) (p : Nat × Nat × Nat), (t_thg t)[i]? = some p → ft (i * 3) = nI p.1 ∧ ft (i * 3 + 1) = nI p.2.1 ∧ ft (i * 3 + 2) = nI p.2.2) ∧
  (∀ (i : Nat) (p : Nat × Nat × Nat × Nat × Int32), (t_bk t)[i]? = some p → fa (i * 5) = nI p.1 ∧ fa (i * 5 + 1) = nI p.2.1 ∧ fa (i * 5 + 2) = nI p.2.2.1 ∧ fa (i * 5 + 3) = nI p.2.2.2.1 ∧ fa (i * 5 + 4) = p.2.2.2.2)
/-- what can be told -/
def WTld (t : TLD) : Prop :=
  (t_ppl t).length ≤ 16 ∧ (t_thg t).length ≤ 16 ∧ (t_bk t).length ≤ 200 ∧
  (∀ (i : Nat) (p : Nat × Nat), (t_ppl t)[i]? = some p → p.1 < 256 ∧ p.2 < 6) ∧
  (∀ (i : Nat) (p : Nat × Nat × Nat), (t_thg t)[i]? = some p → p.1 < 8 ∧ p.2.1 < 6 ∧ p.2.2 < (t_ppl t).length) ∧
  (∀ (i : Nat) (p : Nat × Nat × Nat × Nat × Int32), (t_bk t)[i]? = some p → p.1 < (t_ppl t).length ∧ p.2.1 < 4 ∧ p.2.2.1 < (t_thg t).length ∧ p.2.2.2.1 < 24 ∧ (p.2.2.2.2 = -1 ∨ p.2.2.2.2 = 0 ∨ p.2.2.2.2 = 1))
/-- the reference's rows of image j (0: what is told now) -/
def MTab (t : TLD) (j : Nat) (b : Nat → Nat → Int32) : Prop :=
  b 3 j = nI (t_ppl t).length ∧ b 6 j = nI (t_thg t).length ∧ b 10 j = nI (t_bk t).length ∧
  (∀ (i : Nat) (p : Nat × Nat), (t_ppl t)[i]? = some p → b 4 (16 * j + i) = nI p.1 ∧ b 5 (16 * j + i) = nI p.2) ∧
  (∀ (i : Nat) (p : Nat × Nat × Nat), (t_thg t)[i]? = some p → b 7 (16 * j + i) = nI p.1 ∧ b 8 (16 * j + i) = nI p.2.1 ∧ b 9 (16 * j + i) = nI p.2.2) ∧
  (∀ (i : Nat) (p : Nat × Nat × Nat × Nat × Int32), (t_bk t)[i]? = some p → b 11 (800 * j + i * 4) = nI p.1 ∧ b 11 (800 * j + (i * 4 + 1)) = nI p.2.1 ∧ b 11 (800 * j + (i * 4 + 2)) = nI p.2.2.1 ∧ b 11 (800 * j + (i * 4 + 3)) = nI p.2.2.2.1 ∧ b 12 (200 * j + i) = p.2.2.2.2)
theorem ap_some {α : Type} {l : List α} {x p : α} {i : Nat} (h : (l ++ [x])[i]? = some p) : (l[i]? = some p ∧ i < l.length) ∨ (i = l.length ∧ p = x) := by
  by_cases hi : i < l.length
  · rw [List.getElem?_append_left hi] at h; exact Or.inl ⟨h, hi⟩
  · rw [List.getElem?_append_right (by omega)] at h
    have : i - l.length < 1 := (List.getElem?_eq_some_iff.mp h).1
    rw [show i - l.length = 0 by omega] at h
    cases h
    exact Or.inr ⟨by omega, rfl⟩
theorem at_lt {α : Type} {l : List α} {p : α} {i : Nat} (h : l[i]? = some p) : i < l.length := (List.getElem?_eq_some_iff.mp h).1
theorem at_ex {α : Type} (l : List α) {i : Nat} (h : i < l.length) : ∃ p, l[i]? = some p := ⟨l[i], List.getElem?_eq_getElem h⟩
theorem set_some {α : Type} {l : List α} {x p : α} {i k : Nat} (h : (l.set k x)[i]? = some p) : (i ≠ k ∧ l[i]? = some p) ∨ (i = k ∧ p = x) := by
  rw [List.getElem?_set] at h
  split at h
  · split at h
    · cases h; rename_i h1 _; exact Or.inr ⟨h1.symm, rfl⟩
    · cases h
  · rename_i h1; exact Or.inl ⟨fun e => h1 e.symm, h⟩
/-- a number in a range, as a Nat -/
theorem upN (x : Int32) (n : Nat) (hn : n < 2 ^ 31) : (∃ j, j ≤ n ∧ x = nI j) ∨ (x < 0 ∨ nI n < x) := by
  rcases i_cases x n hn with ⟨j, h1, h2⟩ | h
  · exact Or.inl ⟨j, by omega, h2⟩
  · rcases h with h | h
    · exact Or.inr (Or.inl h)
    · by_cases e : x = nI n
      · exact Or.inl ⟨n, Nat.le_refl _, e⟩
      · exact Or.inr (Or.inr (Int32.lt_of_le_of_ne h (fun z => e z.symm)))
/-- a cell that came later, or one of the three empty ones -/
def gD (T : TS) (q : Nat) : LC := if q = 26 then .inr (3, [LI 0, LR (some 27), LR (some 28)]) else if q = 27 then .inl (3, 0, .inr fun _ => none) else if q = 28 then .inl (0, 0, .inl fun _ => 0) else if q < 62 then ab_ else T.2.2 q
/-- a place that nobody writes again -/
def im (mu : List Nat) (T : TS) (q : Nat) : Prop := q ∉ mu ∧ (q = 26 ∨ q = 27 ∨ q = 28 ∨ (62 ≤ q ∧ q < 8 + T.1))
/-- a step (deed, left, right) as the class keeps it, and as the reference does -/
def encS (x : Nat × Nat × Nat) : Nat := x.1 * 4194304 + x.2.1 * 2048 + x.2.2
def tmS (t : Nat) : Nat × Nat := if t < 1000 then (0, t) else (t - 999, 0)
def opS (d : Nat) : Nat := if d = 0 then 7 else if d = 1 then 9 else if d = 2 then 8 else if d = 3 then 6 else d + 6
def expS (x : Nat × Nat × Nat) : List (Nat × Nat) := if x.1 < 3 then [tmS x.2.1, tmS x.2.2, (opS x.1, 0)] else [(opS x.1, 0)]
def mcode (l : List (Nat × Nat × Nat)) : List (Nat × Nat) := l.flatMap expS ++ [(13, 0)]
def isLn (mu : List Nat) (T : TS) (q : Nat) (l : LNV) : Prop := im mu T q ∧ ∃ (w : Nat) (f : Nat → Int32), im mu T w ∧ gD T q = .inr (0, [LI (nI l.1), LI (nI l.2.1), LI (nI l.2.2.1), LI (nI l.2.2.2.1), LI (nI l.2.2.2.2.1), LI (nI l.2.2.2.2.2.1), LR (some w)]) ∧ gD T w = .inl (0, l.2.2.2.2.2.2.length, .inl f) ∧ ∀ (i : Nat) (x : Nat × Nat × Nat), l.2.2.2.2.2.2[i]? = some x → f i = nI (encS x)
/-- the numbers of the LINES in the order in which the first that HOLDS decides -/
def ordL (ls : List LNV) (b : Nat) : List Nat := (List.range ls.length).filter fun i => match ls[i]? with
  | some l => l.1 == b
  | none => false
def ordR (r : RSV) : List Nat := if r.1 = 0 then List.range r.2.length else if r.1 = 1 then (List.range r.2.length).reverse else if r.1 = 2 then ordL r.2 0 ++ ordL r.2 1 else ordL r.2 1 ++ ordL r.2 0
def isRl (mu : List Nat) (T : TS) (q : Nat) (r : RSV) : Prop := im mu T q ∧ ∃ (ql qo : Nat) (fl : Nat → Option Nat) (fo : Nat → Int32), im mu T ql ∧ im mu T qo ∧ gD T q = .inr (3, [LI (nI r.1), LR (some ql), LR (some qo)]) ∧ gD T ql = .inl (3, r.2.length, .inr fl) ∧ gD T qo = .inl (0, r.2.length, .inl fo) ∧ (∀ (i : Nat) (l : LNV), r.2[i]? = some l → ∃ p, fl i = some p ∧ isLn mu T p l) ∧ ∀ (i k : Nat), (ordR r)[i]? = some k → fo i = nI k
def RSl (mu : List Nat) (T : TS) (sl : Nat → RSV) (r : Nat → Option Nat) : Prop := ∀ i, i < 4 → ∃ q, r i = some q ∧ isRl mu T q (sl i)
/-- an image's Told: eight cells of its own -/
def isTo (mu : List Nat) (T : TS) (q : Nat) (t : TLD) (own : List Nat) : Prop := ∃ (qp cp qt ct qa ca qs : Nat) (np nt na : Int32) (fp ft fa : Nat → Int32) (fs : Nat → Option Nat), own = [q, qp, cp, qt, ct, qa, ca, qs] ∧
  gD T q = .inr (8, [LR (some qp), LR (some qt), LR (some qa), LR (some qs)]) ∧ gD T qp = .inr (5, [LI 2, LI 16, LR (some cp), LI np]) ∧ gD T cp = .inl (0, 32, .inl fp) ∧ gD T qt = .inr (5, [LI 3, LI 16, LR (some ct), LI nt]) ∧ gD T ct = .inl (0, 48, .inl ft) ∧ gD T qa = .inr (5, [LI 5, LI 200, LR (some ca), LI na]) ∧ gD T ca = .inl (0, 1000, .inl fa) ∧ gD T qs = .inl (4, 4, .inr fs) ∧ RTab t np nt na fp ft fa ∧ RSl mu T (t_sl t) fs
def bitsOf (chs : List (Nat × Nat)) (h : Nat) : Nat := (chs.filter fun c => c.2 == h).foldl (fun a c => a + 2 ^ c.1) 0
def isMd (T : TS) (q : Nat) (m : Nat × List (Nat × Nat) × Bool) : Prop := gD T q = .inr (1, [LI (nI m.1), LI (nI (bitsOf m.2.1 0)), LI (nI (bitsOf m.2.1 1)), LI (cond m.2.2 1 0)])
def RTape (l : List Nat) (n : Int32) (f : Nat → Int32) : Prop := n = nI l.length ∧ ∀ (i x : Nat), l[i]? = some x → f i = nI x
def MTape (l : List Nat) (n : Int32) (f : Nat → Int32) : Prop := n = nI l.length ∧ ∀ (i x : Nat), l[i]? = some x → f i &&& 255 = nI x
/-- images and MEND: their own places are apart, none is an immutable one -/
def RIM (mu : List Nat) (T : TS) (S : SG) (r : Nat → Option Nat) (md : Option Nat) : Prop := ∃ (o0 o1 o2 om : List Nat), mu = o0 ++ (o1 ++ (o2 ++ om)) ∧ mu.Nodup ∧ (∀ q ∈ mu, 62 ≤ q ∧ q < 8 + T.1) ∧
  (∀ (k : Nat) (o : List Nat), [o0, o1, o2][k]? = some o → match s_img S k with
    | none => r k = none ∧ o = []
    | some t => ∃ q, r k = some q ∧ isTo mu T q t o) ∧
  match s_mend S with
    | none => md = none ∧ om = []
    | some m => ∃ q, md = some q ∧ om = [q] ∧ isMd T q m
def RC (S : SG) (C : CS) (T : TS) : Prop := RTape (s_tape S) (C.1 0) (C.2.1 0) ∧ RTab (s_told S) (C.1 9) (C.1 10) (C.1 11) (C.2.1 2) (C.2.1 3) (C.2.1 4) ∧ s_flt S = (C.1 29, C.1 30) ∧ 54 ≤ T.1 ∧ (∀ q, 8 + T.1 ≤ q → T.2.2 q = ab_) ∧ ∃ mu, RSl mu T (t_sl (s_told S)) (C.2.2 1) ∧ RIM mu T S (C.2.2 2) (C.2.2 3 0)
/-- the reference's LINE k of the slot e (counted through all images) -/
def MLn (b : Nat → Nat → Int32) (e k : Nat) (l : LNV) : Prop := b 15 (96 * e + (8 * k)) = nI l.1 ∧ b 15 (96 * e + (8 * k + 1)) = nI l.2.1 ∧ b 15 (96 * e + (8 * k + 2)) = nI l.2.2.1 ∧ b 15 (96 * e + (8 * k + 3)) = nI l.2.2.2.1 ∧ b 15 (96 * e + (8 * k + 4)) = nI l.2.2.2.2.1 ∧ b 15 (96 * e + (8 * k + 5)) = nI l.2.2.2.2.2.1 ∧
  (l.2.2.2.2.2.2 = [] ∧ b 15 (96 * e + (8 * k + 6)) = -1 ∨ l.2.2.2.2.2.2 ≠ [] ∧ ∃ off, off + (mcode l.2.2.2.2.2.2).length ≤ 900 ∧ b 15 (96 * e + (8 * k + 6)) = nI off ∧ ∀ (i : Nat) (x : Nat × Nat), (mcode l.2.2.2.2.2.2)[i]? = some x → b 16 (900 * e + (off + i)) = nI x.1 ∧ b 17 (900 * e + (off + i)) = nI x.2)
def MSl (b : Nat → Nat → Int32) (j : Nat) (sl : Nat → RSV) : Prop := ∀ i, i < 4 → b 13 (4 * j + i) = nI (sl i).1 ∧ b 14 (4 * j + i) = nI (sl i).2.length ∧ ∀ (k : Nat) (l : LNV), (sl i).2[k]? = some l → MLn b (4 * j + i) k l
def MMd (S : SG) (M : MS) : Prop := match s_mend S with
  | none => M.1 41 = 0
  | some m => M.1 41 = 1 ∧ M.1 42 = nI m.1 ∧ M.1 44 = nI m.2.1.length ∧ (m.2.2 = true ↔ M.2.2 37 m.1 = M.1 43) ∧ ∀ (i : Nat) (c : Nat × Nat), m.2.1[i]? = some c → M.2.2 45 i = nI c.1 ∧ M.2.2 46 i = nI c.2
/-- tellings: counted up, those of the slots and of the MEND are not ahead of it -/
def MTe (S : SG) (K : Nat) (M : MS) : Prop := ∃ n, n ≤ K ∧ M.1 36 = nI n ∧ (∀ i, i < 4 → ∃ t, t ≤ n ∧ M.2.2 37 i = nI t) ∧ (s_mend S ≠ none → ∃ t, t ≤ n ∧ M.1 43 = nI t)
def RM (S : SG) (K : Nat) (M : MS) : Prop := MTape (s_tape S) (M.1 2) (M.2.2 1) ∧ MTab (s_told S) 0 M.2.2 ∧ MSl M.2.2 0 (t_sl (s_told S)) ∧ s_flt S = (M.1 24, M.1 25) ∧ MMd S M ∧ MTe S K M ∧ ∀ k, k < 3 → match s_img S k with
  | none => M.2.2 49 k = 0
  | some t => M.2.2 49 k = 1 ∧ MTab t (k + 1) M.2.2 ∧ MSl M.2.2 (k + 1) (t_sl t)
/-- a 'when': at every point at least as many values as are taken, at most 13, one at the end -/
def stkS : List (Nat × Nat × Nat) → Nat → Option Nat
  | [], h => some h
  | x :: l, h => if x.1 < 4 then (if h < 13 then stkS l (h + 1) else none) else if x.1 = 4 then (if 1 ≤ h then stkS l h else none) else (if 2 ≤ h then stkS l (h - 1) else none)
def WLn (l : LNV) : Prop := l.1 < 2 ∧ l.2.1 < 5 ∧ l.2.2.1 < 16 ∧ l.2.2.2.1 < 5 ∧ l.2.2.2.2.1 < 4 ∧ l.2.2.2.2.2.1 < 16 ∧ l.2.2.2.2.2.2.length < 600 ∧ (l.2.2.2.2.2.2 = [] ∨ stkS l.2.2.2.2.2.2 0 = some 1) ∧ ∀ x ∈ l.2.2.2.2.2.2, x.1 < 7 ∧ x.2.1 < 1005 ∧ x.2.2 < 1005
def WRs (r : RSV) : Prop := r.1 < 4 ∧ r.2.length ≤ 12 ∧ ∀ l ∈ r.2, WLn l
def WTo (t : TLD) : Prop := WTld t ∧ ∀ i, i < 4 → WRs (t_sl t i)
def WS (S : SG) : Prop := (s_tape S).length ≤ 600 ∧ (∀ x ∈ s_tape S, x < 256) ∧ WTo (s_told S) ∧ (∀ k t, k < 3 → s_img S k = some t → WTo t) ∧ ∀ m, s_mend S = some m → m.1 < 4 ∧ m.2.1.length ≤ 3 ∧ (∀ c ∈ m.2.1, c.1 < 12 ∧ c.2 < 2) ∧ (m.2.1.map Prod.fst).Pairwise (· < ·) ∧ (m.2.2 = true → ∀ c ∈ m.2.1, c.1 < (t_sl (s_told S) m.1).2.length)
