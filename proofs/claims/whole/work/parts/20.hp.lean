/-! the heap once both objects are made: the script X, the class's numbers, rows and references C, the reference's M, what came later T -/
def up {α : Type} (f : Nat → α) (k : Nat) (v : α) (j : Nat) : α := cond (Nat.beq j k) v (f j)
abbrev XS : Type := Nat × (Nat → Int32)
abbrev CS : Type := (Nat → Int32) × (Nat → Nat → Int32) × (Nat → Nat → Option Nat)
abbrev MS : Type := (Nat → Int32) × Int64 × (Nat → Nat → Int32)
abbrev TS : Type := Nat × Nat × (Nat → LC)
def hp (X : XS) (C : CS) (M : MS) (T : TS) : LH :=
  ([.inl (0, X.1, .inl X.2),
    .inl (0, 5, .inl a_who),
    .inl (0, 4, .inl a_what),
    .inr (100, []),
    .inr (100, []),
    .inr (100, []),
    .inr (100, []),
    .inr (100, []),
    .inr (10, [LR (some 9), LR (some 11), LR (some 18), LR (some 29), LR (some 30), LR (some 32), LR (C.2.2 3 0), LI (C.1 29), LI (C.1 30)]),
    .inr (6, [LR (some 10), LI (C.1 0)]),
    .inl (0, 600, .inl (C.2.1 0)),
    .inr (2, [LR (some 12), LR (some 16), LR (some 17), LI (C.1 5), LI (C.1 6), LI (C.1 7), LI (C.1 8)]),
    .inr (7, [LR (some 9), LR (some 13), LR (some 14), LR (some 15), LI (C.1 31), LI (C.1 4), LI (C.1 1), LI (C.1 2), LI (C.1 3)]),
    .inl (0, 601, .inl (C.2.1 8)),
    .inl (0, 601, .inl (C.2.1 9)),
    .inl (0, 601, .inl (C.2.1 10)),
    .inl (3, 12, .inr (C.2.2 0)),
    .inl (0, 600, .inl (C.2.1 1)),
    .inr (8, [LR (some 19), LR (some 21), LR (some 23), LR (some 25)]),
    .inr (5, [LI 2, LI 16, LR (some 20), LI (C.1 9)]),
    .inl (0, 32, .inl (C.2.1 2)),
    .inr (5, [LI 3, LI 16, LR (some 22), LI (C.1 10)]),
    .inl (0, 48, .inl (C.2.1 3)),
    .inr (5, [LI 5, LI 200, LR (some 24), LI (C.1 11)]),
    .inl (0, 1000, .inl (C.2.1 4)),
    .inl (4, 4, .inr (C.2.2 1)),
    .inr (3, [LI 0, LR (some 27), LR (some 28)]),
    .inl (3, 0, .inr fun _ => none),
    .inl (0, 0, .inl fun _ => 0),
    .inl (5, 3, .inr (C.2.2 2)),
    .inr (9, [LR (some 31), LI (C.1 12), LI (C.1 13), LI (C.1 14), LI (C.1 15), LI (C.1 16), LI (C.1 17), LI (C.1 18), LI (C.1 19), LI (C.1 20), LI (C.1 21), LI (C.1 22)]),
    .inl (0, 16, .inl (C.2.1 5)),
    .inr (4, [LR (some 33), LR (some 34), LI (C.1 23), LI (C.1 24), LI (C.1 25), LI (C.1 26), LI (C.1 27), LI (C.1 28)]),
    .inl (0, 200, .inl (C.2.1 6)),
    .inl (0, 200, .inl (C.2.1 7)),
    .inr (11, [LI (M.1 0), LR (some 36), LI (M.1 2), LR (some 37), LR (some 38), LR (some 39), LR (some 40), LR (some 41), LR (some 42), LR (some 43), LR (some 44), LR (some 45), LR (some 46), LR (some 47), LR (some 48), LR (some 49), LR (some 50), LR (some 51), LI (M.1 18), LI (M.1 19), LI (M.1 20), LI (M.1 21), LI (M.1 22), LJ M.2.1, LI (M.1 24), LI (M.1 25), LI (M.1 26), LI (M.1 27), LI (M.1 28), LI (M.1 29), LI (M.1 30), LI (M.1 31), LR (some 52), LR (some 53), LR (some 54), LI (M.1 35), LI (M.1 36), LR (some 55), LR (some 56), LI (M.1 39), LI (M.1 40), LI (M.1 41), LI (M.1 42), LI (M.1 43), LI (M.1 44), LR (some 57), LR (some 58), LR (some 59), LR (some 60), LR (some 61)]),
    .inl (1, 600, .inl (M.2.2 1)),
    .inl (0, 4, .inl (M.2.2 3)),
    .inl (0, 64, .inl (M.2.2 4)),
    .inl (0, 64, .inl (M.2.2 5)),
    .inl (0, 4, .inl (M.2.2 6)),
    .inl (0, 64, .inl (M.2.2 7)),
    .inl (0, 64, .inl (M.2.2 8)),
    .inl (0, 64, .inl (M.2.2 9)),
    .inl (0, 4, .inl (M.2.2 10)),
    .inl (0, 3200, .inl (M.2.2 11)),
    .inl (0, 800, .inl (M.2.2 12)),
    .inl (0, 16, .inl (M.2.2 13)),
    .inl (0, 16, .inl (M.2.2 14)),
    .inl (0, 1536, .inl (M.2.2 15)),
    .inl (1, 14400, .inl (M.2.2 16)),
    .inl (0, 14400, .inl (M.2.2 17)),
    .inl (0, 104, .inl (M.2.2 32)),
    .inl (1, 900, .inl (M.2.2 33)),
    .inl (0, 900, .inl (M.2.2 34)),
    .inl (0, 4, .inl (M.2.2 37)),
    .inl (0, 64, .inl (M.2.2 38)),
    .inl (0, 3, .inl (M.2.2 45)),
    .inl (0, 3, .inl (M.2.2 46)),
    .inl (0, 3, .inl (M.2.2 47)),
    .inl (0, 3, .inl (M.2.2 48)),
    .inl (2, 3, .inl (M.2.2 49))], T)
def c0 (C : CS) (k : Nat) (v : Int32) : CS := (up C.1 k v, C.2)
def ca (C : CS) (k : Nat) (f : Nat → Int32) : CS := (C.1, up C.2.1 k f, C.2.2)
def cr (C : CS) (k : Nat) (f : Nat → Option Nat) : CS := (C.1, C.2.1, up C.2.2 k f)
def m0 (M : MS) (k : Nat) (v : Int32) : MS := (up M.1 k v, M.2)
def ma (M : MS) (k : Nat) (f : Nat → Int32) : MS := (M.1, M.2.1, up M.2.2 k f)
theorem up_s {α : Type} (f : Nat → α) (k : Nat) (v : α) : up f k v k = v := by simp [up]
theorem up_n {α : Type} (f : Nat → α) {k j : Nat} (v : α) (h : j ≠ k) : up f k v j = f j := by
  unfold up
  have hb : Nat.beq j k = false := by
    cases hb : Nat.beq j k with
    | false => rfl
    | true => exact absurd (Nat.eq_of_beq_eq_true hb) h
  rw [hb]
  rfl
theorem up_e {α : Type} (f : Nat → α) (k : Nat) (v : α) (j : Nat) : up f k v j = if j = k then v else f j := by
  by_cases h : j = k
  · subst h; rw [up_s, if_pos rfl]
  · rw [up_n f v h, if_neg h]
theorem up_up {α : Type} (f : Nat → α) (k : Nat) (v w : α) : up (up f k v) k w = up f k w := by
  funext j
  by_cases h : j = k
  · subst h; rw [up_s, up_s]
  · rw [up_n _ _ h, up_n _ _ h, up_n _ _ h]
theorem c0_1 (C : CS) (k : Nat) (v : Int32) : (c0 C k v).1 = up C.1 k v := rfl
theorem c0_2 (C : CS) (k : Nat) (v : Int32) : (c0 C k v).2 = C.2 := rfl
theorem ca_1 (C : CS) (k : Nat) (f : Nat → Int32) : (ca C k f).1 = C.1 := rfl
theorem ca_21 (C : CS) (k : Nat) (f : Nat → Int32) : (ca C k f).2.1 = up C.2.1 k f := rfl
theorem ca_22 (C : CS) (k : Nat) (f : Nat → Int32) : (ca C k f).2.2 = C.2.2 := rfl
theorem cr_1 (C : CS) (k : Nat) (f : Nat → Option Nat) : (cr C k f).1 = C.1 := rfl
theorem cr_21 (C : CS) (k : Nat) (f : Nat → Option Nat) : (cr C k f).2.1 = C.2.1 := rfl
theorem cr_22 (C : CS) (k : Nat) (f : Nat → Option Nat) : (cr C k f).2.2 = up C.2.2 k f := rfl
theorem m0_1 (M : MS) (k : Nat) (v : Int32) : (m0 M k v).1 = up M.1 k v := rfl
theorem m0_2 (M : MS) (k : Nat) (v : Int32) : (m0 M k v).2 = M.2 := rfl
theorem ma_1 (M : MS) (k : Nat) (f : Nat → Int32) : (ma M k f).1 = M.1 := rfl
theorem ma_21 (M : MS) (k : Nat) (f : Nat → Int32) : (ma M k f).2.1 = M.2.1 := rfl
theorem ma_22 (M : MS) (k : Nat) (f : Nat → Int32) : (ma M k f).2.2 = up M.2.2 k f := rfl
theorem c0c0 (C : CS) (k : Nat) (v w : Int32) : c0 (c0 C k v) k w = c0 C k w := by unfold c0; simp only [up_up]
theorem caca (C : CS) (k : Nat) (f g : Nat → Int32) : ca (ca C k f) k g = ca C k g := by unfold ca; simp only [up_up]
theorem crcr (C : CS) (k : Nat) (f g : Nat → Option Nat) : cr (cr C k f) k g = cr C k g := by unfold cr; simp only [up_up]
theorem m0m0 (M : MS) (k : Nat) (v w : Int32) : m0 (m0 M k v) k w = m0 M k w := by unfold m0; simp only [up_up]
theorem mama (M : MS) (k : Nat) (f g : Nat → Int32) : ma (ma M k f) k g = ma M k g := by unfold ma; simp only [up_up]
theorem aI_at {A : LH} {q t n k : Nat} {f : Nat → Int32} (h : gc A q = .inl (t, n, .inl f)) (hk : k < n) (hn : n < 2 ^ 31) : aI A (some q) t (nI k) = some (f k) := by
  have := vp_in_nI hk hn
  unfold vp_in at this
  simp only [aI, h]
  rw [if_pos ⟨trivial, this⟩, nI_clamp (by omega)]
theorem aR_at {A : LH} {q t n k : Nat} {f : Nat → Option Nat} (h : gc A q = .inl (t, n, .inr f)) (hk : k < n) (hn : n < 2 ^ 31) : aR A (some q) t (nI k) = some (f k) := by
  have := vp_in_nI hk hn
  unfold vp_in at this
  simp only [aR, h]
  rw [if_pos ⟨trivial, this⟩, nI_clamp (by omega)]
theorem sI_at {A : LH} {q t n k : Nat} {f : Nat → Int32} {x : Int32} (h : gc A q = .inl (t, n, .inl f)) (hk : k < n) (hn : n < 2 ^ 31) (h8 : 8 ≤ q) : sI A (some q) t (nI k) x = some (sc A q (.inl (t, n, .inl (upd f k x)))) := by
  have := vp_in_nI hk hn
  unfold vp_in at this
  simp only [sI, h]
  rw [if_pos ⟨⟨trivial, h8⟩, this⟩, nI_clamp (by omega)]
