/-! rows of the reference: what an image's part of them says, if that part stays -/
def szA (a : Nat) : Nat := if a = 3 ∨ a = 6 ∨ a = 10 then 1 else if a = 4 ∨ a = 5 ∨ a = 7 ∨ a = 8 ∨ a = 9 then 16 else if a = 11 then 800 else if a = 12 then 200 else if a = 13 ∨ a = 14 then 4 else if a = 15 then 384 else if a = 16 ∨ a = 17 then 3600 else 0
def Agr (j : Nat) (b b' : Nat → Nat → Int32) : Prop := ∀ a i, i < szA a → b' a (szA a * j + i) = b a (szA a * j + i)
theorem Agr.at {j : Nat} {b b' : Nat → Nat → Int32} (h : Agr j b b') (a : Nat) {x i n : Nat} (hn : szA a = n) (hx : x = n * j + i) (hi : i < n) : b' a x = b a x := by
  subst hn; subst hx; exact h a i hi
theorem Agr.rf (j : Nat) (b : Nat → Nat → Int32) : Agr j b b := fun _ _ _ => rfl
theorem Agr.tr {j : Nat} {b b' b'' : Nat → Nat → Int32} (h : Agr j b b') (h2 : Agr j b' b'') : Agr j b b'' := fun a i hi => (h2 a i hi).trans (h a i hi)
/-- a row outside the image's part is written -/
theorem agr_up {j a x : Nat} {b : Nat → Nat → Int32} {v : Int32} (h : ∀ i, i < szA a → szA a * j + i ≠ x) : Agr j b (up b a (upd (b a) x v)) := by
  intro a' i hi
  by_cases e : a' = a
  · subst e; rw [up_s, pk_un (h i hi)]
  · rw [up_n _ _ e]
theorem agr_lo {j a x : Nat} {b : Nat → Nat → Int32} {v : Int32} (hj : 0 < j) (h : x < szA a ∨ szA a = 0) : Agr j b (up b a (upd (b a) x v)) := by
  refine agr_up fun i hi => ?_
  rcases h with h | h
  · have : szA a * 1 ≤ szA a * j := Nat.mul_le_mul_left _ hj
    omega
  · omega
theorem agr_no {j a : Nat} {b : Nat → Nat → Int32} {f : Nat → Int32} (h : szA a = 0) : Agr j b (up b a f) := by
  intro a' i hi
  by_cases e : a' = a
  · subst e; omega
  · rw [up_n _ _ e]
theorem agr_w {j : Nat} {b b' : Nat → Nat → Int32} (h : Agr j b b') (a x : Nat) {f : Nat → Int32} {v : Int32} (hf : b' a = f) (hj : 0 < j) (hx : x < szA a) : Agr j b (up b' a (upd f x v)) := by
  subst hf
  exact h.tr (agr_lo hj (Or.inl hx))
theorem MTab.agr {t : TLD} {j : Nat} {b b' : Nat → Nat → Int32} (h : MTab t j b) (hw : WTld t) (g : Agr j b b') : MTab t j b' := by
  obtain ⟨h1, h2, h3, h4, h5, h6⟩ := h
  obtain ⟨w1, w2, w3, -⟩ := hw
  refine ⟨?_, ?_, ?_, fun i p hp => ?_, fun i p hp => ?_, fun i p hp => ?_⟩
  · rw [g.at 3 (n := 1) (i := 0) rfl (by omega) (by omega)]; exact h1
  · rw [g.at 6 (n := 1) (i := 0) rfl (by omega) (by omega)]; exact h2
  · rw [g.at 10 (n := 1) (i := 0) rfl (by omega) (by omega)]; exact h3
  · have := at_lt hp
    rw [g.at 4 (n := 16) (i := i) rfl rfl (by omega), g.at 5 (n := 16) (i := i) rfl rfl (by omega)]; exact h4 i p hp
  · have := at_lt hp
    rw [g.at 7 (n := 16) (i := i) rfl rfl (by omega), g.at 8 (n := 16) (i := i) rfl rfl (by omega), g.at 9 (n := 16) (i := i) rfl rfl (by omega)]; exact h5 i p hp
  · have := at_lt hp
    rw [g.at 11 (n := 800) (i := i * 4) rfl rfl (by omega), g.at 11 (n := 800) (i := i * 4 + 1) rfl rfl (by omega), g.at 11 (n := 800) (i := i * 4 + 2) rfl rfl (by omega), g.at 11 (n := 800) (i := i * 4 + 3) rfl rfl (by omega), g.at 12 (n := 200) (i := i) rfl rfl (by omega)]; exact h6 i p hp
theorem MLn.agr {j i k : Nat} {l : LNV} {b b' : Nat → Nat → Int32} (h : MLn b (4 * j + i) k l) (hi : i < 4) (hk : k < 12) (g : Agr j b b') : MLn b' (4 * j + i) k l := by
  obtain ⟨h1, h2, h3, h4, h5, h6, h7⟩ := h
  have e : ∀ c, c < 8 → b' 15 (96 * (4 * j + i) + (8 * k + c)) = b 15 (96 * (4 * j + i) + (8 * k + c)) := fun c hc => g.at 15 (n := 384) (i := 96 * i + 8 * k + c) rfl (by omega) (by omega)
  refine ⟨(e 0 (by omega)).trans h1, (e 1 (by omega)).trans h2, (e 2 (by omega)).trans h3, (e 3 (by omega)).trans h4, (e 4 (by omega)).trans h5, (e 5 (by omega)).trans h6, ?_⟩
  rcases h7 with ⟨h7, h8⟩ | ⟨h7, off, h8, h9, h10⟩
  · exact Or.inl ⟨h7, (e 6 (by omega)).trans h8⟩
  · refine Or.inr ⟨h7, off, h8, (e 6 (by omega)).trans h9, fun m x hx => ?_⟩
    have := at_lt hx
    rw [g.at 16 (n := 3600) (i := 900 * i + off + m) rfl (by omega) (by omega), g.at 17 (n := 3600) (i := 900 * i + off + m) rfl (by omega) (by omega)]
    exact h10 m x hx
theorem MSl.agr {sl : Nat → RSV} {j : Nat} {b b' : Nat → Nat → Int32} (h : MSl b j sl) (hw : ∀ i, i < 4 → WRs (sl i)) (g : Agr j b b') : MSl b' j sl := by
  intro i hi
  obtain ⟨h1, h2, h3⟩ := h i hi
  refine ⟨?_, ?_, fun k l hl => ?_⟩
  · rw [g.at 13 (n := 4) (i := i) rfl rfl hi]; exact h1
  · rw [g.at 14 (n := 4) (i := i) rfl rfl hi]; exact h2
  · have := at_lt hl
    have := (hw i hi).2.1
    exact (h3 k l hl).agr hi (by omega) g
/-- the images of the reference -/
def MIm (S : SG) (b : Nat → Nat → Int32) : Prop := ∀ k, k < 3 → match s_img S k with
  | none => b 49 k = 0
  | some t => b 49 k = 1 ∧ MTab t (k + 1) b ∧ MSl b (k + 1) (t_sl t)
theorem MIm.agr {S S' : SG} {b b' : Nat → Nat → Int32} (h : MIm S b) (hw : ∀ k t, k < 3 → s_img S k = some t → WTo t) (hs : s_img S' = s_img S) (h49 : b' 49 = b 49) (g : ∀ j, 0 < j → Agr j b b') : MIm S' b' := by
  intro k hk
  have h0 := h k hk
  rw [hs]
  cases hi : s_img S k with
  | none => rw [hi] at h0; rw [h49]; exact h0
  | some t =>
    rw [hi] at h0
    have hwt := hw k t hk hi
    exact ⟨by rw [h49]; exact h0.1, h0.2.1.agr hwt.1 (g _ (by omega)), h0.2.2.agr hwt.2 (g _ (by omega))⟩
