/-! deps: 31.oph 32.dyn 33.cnt 34.tt -/
/-! the reference's copy of an image -/
section MIM
variable {X : XS} {C : CS} {M : MS} {T : TS} {S : SG} {K : Nat}
def mvF (f : Nat → Int32) (n fr to : Nat) (j : Nat) : Int32 := if n * to ≤ j ∧ j < n * to + n then f (n * fr + (j - n * to)) else f j
def mvP (g : Int32 → Int32) (f : Nat → Int32) (n fr to k : Nat) (j : Nat) : Int32 := if n * to ≤ j ∧ j < n * to + k then g (f (n * fr + (j - n * to))) else f j
theorem mvP_0 {g : Int32 → Int32} {f : Nat → Int32} {n fr to : Nat} : mvP g f n fr to 0 = f := by
  funext j; unfold mvP; rw [if_neg (by omega)]
theorem mvP_s {g : Int32 → Int32} {f : Nat → Int32} {n fr to k : Nat} : upd (mvP g f n fr to k) (n * to + k) (g (f (n * fr + k))) = mvP g f n fr to (k + 1) := by
  funext j
  by_cases h : j = n * to + k
  · subst h; rw [pk_us]; unfold mvP; rw [if_pos (by omega), Nat.add_sub_cancel_left]
  · rw [pk_un h]; unfold mvP
    by_cases q : n * to ≤ j ∧ j < n * to + k
    · rw [if_pos q, if_pos (by omega)]
    · rw [if_neg q, if_neg (by omega)]
theorem mvP_src {g : Int32 → Int32} {f : Nat → Int32} {n fr to k i : Nat} (hi : i < n) (hne : fr ≠ to) (hk : k ≤ n) : mvP g f n fr to k (n * fr + i) = f (n * fr + i) := by
  unfold mvP
  rw [if_neg]
  rintro ⟨h1, h2⟩
  rcases Nat.lt_or_gt_of_ne hne with h | h
  · have : n * (fr + 1) ≤ n * to := Nat.mul_le_mul_left _ h
    rw [Nat.mul_add] at this; omega
  · have : n * (to + 1) ≤ n * fr := Nat.mul_le_mul_left _ h
    rw [Nat.mul_add] at this; omega
theorem m_move (N : Nat) {P L n fr to : Nat} (A : (Nat → Int32) → LH) (hA : ∀ g, gc (A g) P = .inl (0, L, .inl g)) (hS : ∀ g g', sc (A g) P (.inl (0, L, .inl g')) = A g') (h8 : 8 ≤ P) (hf : n * fr + n ≤ L) (ht : n * to + n ≤ L) (hL : L < 2 ^ 31) (hne : fr ≠ to) (f : Nat → Int32) : ∀ (d m k : Nat), n = k + d → d < m → l_X11_move_3 N m (A (mvP id f n fr to k)) (some P) (nI n) (nI fr) (nI to) (nI k) = some (A (mvP id f n fr to n)) := by
  intro d
  induction d with
  | zero =>
    intro m k h1 h2
    obtain ⟨m, rfl⟩ : ∃ j, m = j + 1 := ⟨m - 1, by omega⟩
    have : k = n := by omega
    subst this
    simp only [l_X11_move_3, b_X11_move_3, nI_le (Nat.le_refl k) (by omega), if_true]
  | succ d ih =>
    intro m k h1 h2
    obtain ⟨m, rfl⟩ : ∃ j, m = j + 1 := ⟨m - 1, by omega⟩
    have hlt : ¬ nI n ≤ nI k := nI_ge (by omega) (by omega)
    have e1 := aI_at (hA (mvP id f n fr to k)) (k := n * fr + k) (by omega) hL
    rw [mvP_src (by omega) hne (by omega)] at e1
    have e2 := sI_at (x := f (n * fr + k)) (hA (mvP id f n fr to k)) (k := n * to + k) (by omega) hL h8
    rw [hS] at e2
    have e3 : upd (mvP id f n fr to k) (n * to + k) (f (n * fr + k)) = mvP id f n fr to (k + 1) := mvP_s (g := id)
    rw [e3] at e2
    simp only [l_X11_move_3, b_X11_move_3, hlt, if_false, pk_mul, nI_add, e1, e2, Option.bind_some, nI_1]
    exact ih m (k + 1) (by omega) (by omega)
theorem m_move0 (N : Nat) {P L n fr to : Nat} (A : (Nat → Int32) → LH) (hA : ∀ g, gc (A g) P = .inl (0, L, .inl g)) (hS : ∀ g g', sc (A g) P (.inl (0, L, .inl g')) = A g') (h8 : 8 ≤ P) (hf : n * fr + n ≤ L) (ht : n * to + n ≤ L) (hL : L < 2 ^ 31) (hne : fr ≠ to) (hN : n < N) (f : Nat → Int32) : f_X11_move N (A f) (some P) (nI n) (nI fr) (nI to) = some (A (mvP id f n fr to n)) := by
  have := m_move N A hA hS h8 hf ht hL hne f n N 0 (by omega) hN
  rw [mvP_0, nI_0] at this
  exact this
theorem ma_id (M : MS) (a : Nat) : ma M a (M.2.2 a) = M := by
  unfold ma
  refine Prod.ext rfl (Prod.ext rfl ?_)
  funext j
  by_cases h : j = a
  · subst h; exact up_s _ _ _
  · exact up_n _ _ h
theorem m_copyB (N : Nat) {fr to : Nat} (hf : fr < 4) (ht : to < 4) (hne : fr ≠ to) : ∀ (d m k : Nat) (M : MS) (f : Nat → Int32), M.2.2 16 = mvP (fun x => x.toInt8.toInt32) f 3600 fr to k → 3600 = k + d → d < m → l_X11_copy_155 N m (hp X C M T) (some 32) (nI fr) (nI to) (nI k) = some (hp X C (ma M 16 (mvP (fun x => x.toInt8.toInt32) f 3600 fr to 3600)) T) := by
  intro d
  have t36 : nI 3600 = 3600 := by decide
  induction d with
  | zero =>
    intro m k M f hM h1 h2
    obtain ⟨m, rfl⟩ : ∃ j, m = j + 1 := ⟨m - 1, by omega⟩
    have : k = 3600 := by omega
    subst this
    rw [← hM]
    have e := ma_id M 16
    rw [e]
    simp only [l_X11_copy_155, b_X11_copy_155, ← t36, nI_le (Nat.le_refl 3600) (by decide), if_true]
  | succ d ih =>
    intro m k M f hM h1 h2
    obtain ⟨m, rfl⟩ : ∃ j, m = j + 1 := ⟨m - 1, by omega⟩
    have hlt : ¬ (3600 : Int32) ≤ nI k := by rw [← t36]; exact nI_ge (by omega) (by omega)
    have b1 : 3600 * fr + k < 14400 := by omega
    have b2 : 3600 * to + k < 14400 := by omega
    have e1 := ai_47 (X := X) (C := C) (M := M) (T := T) (k := 3600 * fr + k) b1
    rw [hM, mvP_src (by omega) hne (by omega)] at e1
    have e2 := si_47 (X := X) (C := C) (M := M) (T := T) (k := 3600 * to + k) (x := (f (3600 * fr + k)).toInt8.toInt32) b2
    rw [hM] at e2
    have e3 : upd (mvP (fun x => x.toInt8.toInt32) f 3600 fr to k) (3600 * to + k) ((f (3600 * fr + k)).toInt8.toInt32) = mvP (fun x => x.toInt8.toInt32) f 3600 fr to (k + 1) := mvP_s (g := fun x => x.toInt8.toInt32)
    rw [e3] at e2
    have ihh := ih m (k + 1) (ma M 16 (mvP (fun x => x.toInt8.toInt32) f 3600 fr to (k + 1))) f rfl (by omega) (by omega)
    rw [mama] at ihh
    simp only [l_X11_copy_155, b_X11_copy_155, hlt, if_false, gr_32_16, Option.bind_some]
    rw [← t36]
    simp only [pk_mul, nI_add, e1, e2, Option.bind_some, nI_1]
    exact ihh
/-- rows 3 to 17 of image fr put over those of image to -/
def cpB (b : Nat → Nat → Int32) (fr to : Nat) (a : Nat) : Nat → Int32 := if a = 16 then mvP (fun x => x.toInt8.toInt32) (b 16) 3600 fr to 3600 else mvP id (b a) (szA a) fr to (szA a)
theorem m_mv (N : Nat) {fr to : Nat} (hf : fr < 4) (ht : to < 4) (hne : fr ≠ to) (P L n a : Nat) (M : MS) (hA : ∀ g, gc (hp X C (ma M a g) T) P = .inl (0, L, .inl g)) (hS : ∀ g g', sc (hp X C (ma M a g) T) P (.inl (0, L, .inl g')) = hp X C (ma M a g') T) (h8 : 8 ≤ P) (hL : 4 * n ≤ L) (hL2 : L < 2 ^ 31) (hnN : n < N) : f_X11_move N (hp X C M T) (some P) (nI n) (nI fr) (nI to) = some (hp X C (ma M a (mvP id (M.2.2 a) n fr to n)) T) := by
  have e := ma_id M a
  have q1 : n * (fr + 1) ≤ n * 4 := Nat.mul_le_mul_left _ hf
  have q2 : n * (to + 1) ≤ n * 4 := Nat.mul_le_mul_left _ ht
  rw [Nat.mul_add] at q1 q2
  have := m_move0 N (fun g => hp X C (ma M a g) T) hA hS h8 (n := n) (fr := fr) (to := to) (by omega) (by omega) hL2 hne hnN (M.2.2 a)
  simp only [e] at this
  exact this
theorem mv_3 (N : Nat) (hN : 4000 ≤ N) {fr to : Nat} (hf : fr < 4) (ht : to < 4) (hne : fr ≠ to) {f : Nat → Int32} (h : M.2.2 3 = f) : f_X11_move N (hp X C M T) (some 34) 1 (nI fr) (nI to) = some (hp X C (ma M 3 (mvP id f 1 fr to 1)) T) := by
  subst h
  have e := m_mv (X := X) (C := C) (T := T) N hf ht hne 34 4 1 3 M (fun _ => rfl) (fun g g' => by rw [sc_34, mama]) (by decide) (by decide) (by decide) (by omega)
  rwa [show nI 1 = 1 by decide] at e
theorem mv_4 (N : Nat) (hN : 4000 ≤ N) {fr to : Nat} (hf : fr < 4) (ht : to < 4) (hne : fr ≠ to) {f : Nat → Int32} (h : M.2.2 4 = f) : f_X11_move N (hp X C M T) (some 35) 16 (nI fr) (nI to) = some (hp X C (ma M 4 (mvP id f 16 fr to 16)) T) := by
  subst h
  have e := m_mv (X := X) (C := C) (T := T) N hf ht hne 35 64 16 4 M (fun _ => rfl) (fun g g' => by rw [sc_35, mama]) (by decide) (by decide) (by decide) (by omega)
  rwa [show nI 16 = 16 by decide] at e
theorem mv_5 (N : Nat) (hN : 4000 ≤ N) {fr to : Nat} (hf : fr < 4) (ht : to < 4) (hne : fr ≠ to) {f : Nat → Int32} (h : M.2.2 5 = f) : f_X11_move N (hp X C M T) (some 36) 16 (nI fr) (nI to) = some (hp X C (ma M 5 (mvP id f 16 fr to 16)) T) := by
  subst h
  have e := m_mv (X := X) (C := C) (T := T) N hf ht hne 36 64 16 5 M (fun _ => rfl) (fun g g' => by rw [sc_36, mama]) (by decide) (by decide) (by decide) (by omega)
  rwa [show nI 16 = 16 by decide] at e
theorem mv_6 (N : Nat) (hN : 4000 ≤ N) {fr to : Nat} (hf : fr < 4) (ht : to < 4) (hne : fr ≠ to) {f : Nat → Int32} (h : M.2.2 6 = f) : f_X11_move N (hp X C M T) (some 37) 1 (nI fr) (nI to) = some (hp X C (ma M 6 (mvP id f 1 fr to 1)) T) := by
  subst h
  have e := m_mv (X := X) (C := C) (T := T) N hf ht hne 37 4 1 6 M (fun _ => rfl) (fun g g' => by rw [sc_37, mama]) (by decide) (by decide) (by decide) (by omega)
  rwa [show nI 1 = 1 by decide] at e
theorem mv_7 (N : Nat) (hN : 4000 ≤ N) {fr to : Nat} (hf : fr < 4) (ht : to < 4) (hne : fr ≠ to) {f : Nat → Int32} (h : M.2.2 7 = f) : f_X11_move N (hp X C M T) (some 38) 16 (nI fr) (nI to) = some (hp X C (ma M 7 (mvP id f 16 fr to 16)) T) := by
  subst h
  have e := m_mv (X := X) (C := C) (T := T) N hf ht hne 38 64 16 7 M (fun _ => rfl) (fun g g' => by rw [sc_38, mama]) (by decide) (by decide) (by decide) (by omega)
  rwa [show nI 16 = 16 by decide] at e
theorem mv_8 (N : Nat) (hN : 4000 ≤ N) {fr to : Nat} (hf : fr < 4) (ht : to < 4) (hne : fr ≠ to) {f : Nat → Int32} (h : M.2.2 8 = f) : f_X11_move N (hp X C M T) (some 39) 16 (nI fr) (nI to) = some (hp X C (ma M 8 (mvP id f 16 fr to 16)) T) := by
  subst h
  have e := m_mv (X := X) (C := C) (T := T) N hf ht hne 39 64 16 8 M (fun _ => rfl) (fun g g' => by rw [sc_39, mama]) (by decide) (by decide) (by decide) (by omega)
  rwa [show nI 16 = 16 by decide] at e
theorem mv_9 (N : Nat) (hN : 4000 ≤ N) {fr to : Nat} (hf : fr < 4) (ht : to < 4) (hne : fr ≠ to) {f : Nat → Int32} (h : M.2.2 9 = f) : f_X11_move N (hp X C M T) (some 40) 16 (nI fr) (nI to) = some (hp X C (ma M 9 (mvP id f 16 fr to 16)) T) := by
  subst h
  have e := m_mv (X := X) (C := C) (T := T) N hf ht hne 40 64 16 9 M (fun _ => rfl) (fun g g' => by rw [sc_40, mama]) (by decide) (by decide) (by decide) (by omega)
  rwa [show nI 16 = 16 by decide] at e
theorem mv_10 (N : Nat) (hN : 4000 ≤ N) {fr to : Nat} (hf : fr < 4) (ht : to < 4) (hne : fr ≠ to) {f : Nat → Int32} (h : M.2.2 10 = f) : f_X11_move N (hp X C M T) (some 41) 1 (nI fr) (nI to) = some (hp X C (ma M 10 (mvP id f 1 fr to 1)) T) := by
  subst h
  have e := m_mv (X := X) (C := C) (T := T) N hf ht hne 41 4 1 10 M (fun _ => rfl) (fun g g' => by rw [sc_41, mama]) (by decide) (by decide) (by decide) (by omega)
  rwa [show nI 1 = 1 by decide] at e
theorem mv_11 (N : Nat) (hN : 4000 ≤ N) {fr to : Nat} (hf : fr < 4) (ht : to < 4) (hne : fr ≠ to) {f : Nat → Int32} (h : M.2.2 11 = f) : f_X11_move N (hp X C M T) (some 42) 800 (nI fr) (nI to) = some (hp X C (ma M 11 (mvP id f 800 fr to 800)) T) := by
  subst h
  have e := m_mv (X := X) (C := C) (T := T) N hf ht hne 42 3200 800 11 M (fun _ => rfl) (fun g g' => by rw [sc_42, mama]) (by decide) (by decide) (by decide) (by omega)
  rwa [show nI 800 = 800 by decide] at e
theorem mv_12 (N : Nat) (hN : 4000 ≤ N) {fr to : Nat} (hf : fr < 4) (ht : to < 4) (hne : fr ≠ to) {f : Nat → Int32} (h : M.2.2 12 = f) : f_X11_move N (hp X C M T) (some 43) 200 (nI fr) (nI to) = some (hp X C (ma M 12 (mvP id f 200 fr to 200)) T) := by
  subst h
  have e := m_mv (X := X) (C := C) (T := T) N hf ht hne 43 800 200 12 M (fun _ => rfl) (fun g g' => by rw [sc_43, mama]) (by decide) (by decide) (by decide) (by omega)
  rwa [show nI 200 = 200 by decide] at e
theorem mv_13 (N : Nat) (hN : 4000 ≤ N) {fr to : Nat} (hf : fr < 4) (ht : to < 4) (hne : fr ≠ to) {f : Nat → Int32} (h : M.2.2 13 = f) : f_X11_move N (hp X C M T) (some 44) 4 (nI fr) (nI to) = some (hp X C (ma M 13 (mvP id f 4 fr to 4)) T) := by
  subst h
  have e := m_mv (X := X) (C := C) (T := T) N hf ht hne 44 16 4 13 M (fun _ => rfl) (fun g g' => by rw [sc_44, mama]) (by decide) (by decide) (by decide) (by omega)
  rwa [show nI 4 = 4 by decide] at e
theorem mv_14 (N : Nat) (hN : 4000 ≤ N) {fr to : Nat} (hf : fr < 4) (ht : to < 4) (hne : fr ≠ to) {f : Nat → Int32} (h : M.2.2 14 = f) : f_X11_move N (hp X C M T) (some 45) 4 (nI fr) (nI to) = some (hp X C (ma M 14 (mvP id f 4 fr to 4)) T) := by
  subst h
  have e := m_mv (X := X) (C := C) (T := T) N hf ht hne 45 16 4 14 M (fun _ => rfl) (fun g g' => by rw [sc_45, mama]) (by decide) (by decide) (by decide) (by omega)
  rwa [show nI 4 = 4 by decide] at e
theorem mv_15 (N : Nat) (hN : 4000 ≤ N) {fr to : Nat} (hf : fr < 4) (ht : to < 4) (hne : fr ≠ to) {f : Nat → Int32} (h : M.2.2 15 = f) : f_X11_move N (hp X C M T) (some 46) 384 (nI fr) (nI to) = some (hp X C (ma M 15 (mvP id f 384 fr to 384)) T) := by
  subst h
  have e := m_mv (X := X) (C := C) (T := T) N hf ht hne 46 1536 384 15 M (fun _ => rfl) (fun g g' => by rw [sc_46, mama]) (by decide) (by decide) (by decide) (by omega)
  rwa [show nI 384 = 384 by decide] at e
theorem mv_17 (N : Nat) (hN : 4000 ≤ N) {fr to : Nat} (hf : fr < 4) (ht : to < 4) (hne : fr ≠ to) {f : Nat → Int32} (h : M.2.2 17 = f) : f_X11_move N (hp X C M T) (some 48) 3600 (nI fr) (nI to) = some (hp X C (ma M 17 (mvP id f 3600 fr to 3600)) T) := by
  subst h
  have e := m_mv (X := X) (C := C) (T := T) N hf ht hne 48 14400 3600 17 M (fun _ => rfl) (fun g g' => by rw [sc_48, mama]) (by decide) (by decide) (by decide) (by omega)
  rwa [show nI 3600 = 3600 by decide] at e
theorem m_copy (N : Nat) (hN : 4000 ≤ N) {fr to : Nat} (hf : fr < 4) (ht : to < 4) (hne : fr ≠ to) : f_X11_copy N (hp X C M T) (some 32) (nI fr) (nI to) = some (hp X C (M.1, M.2.1, cpB M.2.2 fr to) T) := by
  obtain ⟨M3, d3, k3, z3, o3⟩ : ∃ M', M' = ma M 3 (mvP id (M.2.2 3) 1 fr to 1) ∧ (∀ b, b < 3 → M'.2.2 b = M.2.2 b) ∧ (∀ b, 3 < b → M'.2.2 b = M.2.2 b) ∧ M'.2.2 3 = mvP id (M.2.2 3) 1 fr to 1 := ⟨_, rfl, fun b hb => up_n _ _ (by omega), fun b hb => up_n _ _ (by omega), up_s _ _ _⟩
  have u3 : M3.1 = M.1 ∧ M3.2.1 = M.2.1 := by subst d3; exact ⟨rfl, rfl⟩
  have e3 := mv_3 (X := X) (C := C) (T := T) (M := M) N hN hf ht hne (f := M.2.2 3) (rfl)
  rw [← d3] at e3
  obtain ⟨M4, d4, k4, z4, o4⟩ : ∃ M', M' = ma M3 4 (mvP id (M.2.2 4) 16 fr to 16) ∧ (∀ b, b < 4 → M'.2.2 b = M3.2.2 b) ∧ (∀ b, 4 < b → M'.2.2 b = M3.2.2 b) ∧ M'.2.2 4 = mvP id (M.2.2 4) 16 fr to 16 := ⟨_, rfl, fun b hb => up_n _ _ (by omega), fun b hb => up_n _ _ (by omega), up_s _ _ _⟩
  have u4 : M4.1 = M.1 ∧ M4.2.1 = M.2.1 := by subst d4; exact u3
  have e4 := mv_4 (X := X) (C := C) (T := T) (M := M3) N hN hf ht hne (f := M.2.2 4) (by rw [z3 _ (by decide)])
  rw [← d4] at e4
  obtain ⟨M5, d5, k5, z5, o5⟩ : ∃ M', M' = ma M4 5 (mvP id (M.2.2 5) 16 fr to 16) ∧ (∀ b, b < 5 → M'.2.2 b = M4.2.2 b) ∧ (∀ b, 5 < b → M'.2.2 b = M4.2.2 b) ∧ M'.2.2 5 = mvP id (M.2.2 5) 16 fr to 16 := ⟨_, rfl, fun b hb => up_n _ _ (by omega), fun b hb => up_n _ _ (by omega), up_s _ _ _⟩
  have u5 : M5.1 = M.1 ∧ M5.2.1 = M.2.1 := by subst d5; exact u4
  have e5 := mv_5 (X := X) (C := C) (T := T) (M := M4) N hN hf ht hne (f := M.2.2 5) (by rw [z4 _ (by decide), z3 _ (by decide)])
  rw [← d5] at e5
  obtain ⟨M6, d6, k6, z6, o6⟩ : ∃ M', M' = ma M5 6 (mvP id (M.2.2 6) 1 fr to 1) ∧ (∀ b, b < 6 → M'.2.2 b = M5.2.2 b) ∧ (∀ b, 6 < b → M'.2.2 b = M5.2.2 b) ∧ M'.2.2 6 = mvP id (M.2.2 6) 1 fr to 1 := ⟨_, rfl, fun b hb => up_n _ _ (by omega), fun b hb => up_n _ _ (by omega), up_s _ _ _⟩
  have u6 : M6.1 = M.1 ∧ M6.2.1 = M.2.1 := by subst d6; exact u5
  have e6 := mv_6 (X := X) (C := C) (T := T) (M := M5) N hN hf ht hne (f := M.2.2 6) (by rw [z5 _ (by decide), z4 _ (by decide), z3 _ (by decide)])
  rw [← d6] at e6
  obtain ⟨M7, d7, k7, z7, o7⟩ : ∃ M', M' = ma M6 7 (mvP id (M.2.2 7) 16 fr to 16) ∧ (∀ b, b < 7 → M'.2.2 b = M6.2.2 b) ∧ (∀ b, 7 < b → M'.2.2 b = M6.2.2 b) ∧ M'.2.2 7 = mvP id (M.2.2 7) 16 fr to 16 := ⟨_, rfl, fun b hb => up_n _ _ (by omega), fun b hb => up_n _ _ (by omega), up_s _ _ _⟩
  have u7 : M7.1 = M.1 ∧ M7.2.1 = M.2.1 := by subst d7; exact u6
  have e7 := mv_7 (X := X) (C := C) (T := T) (M := M6) N hN hf ht hne (f := M.2.2 7) (by rw [z6 _ (by decide), z5 _ (by decide), z4 _ (by decide), z3 _ (by decide)])
  rw [← d7] at e7
  obtain ⟨M8, d8, k8, z8, o8⟩ : ∃ M', M' = ma M7 8 (mvP id (M.2.2 8) 16 fr to 16) ∧ (∀ b, b < 8 → M'.2.2 b = M7.2.2 b) ∧ (∀ b, 8 < b → M'.2.2 b = M7.2.2 b) ∧ M'.2.2 8 = mvP id (M.2.2 8) 16 fr to 16 := ⟨_, rfl, fun b hb => up_n _ _ (by omega), fun b hb => up_n _ _ (by omega), up_s _ _ _⟩
  have u8 : M8.1 = M.1 ∧ M8.2.1 = M.2.1 := by subst d8; exact u7
  have e8 := mv_8 (X := X) (C := C) (T := T) (M := M7) N hN hf ht hne (f := M.2.2 8) (by rw [z7 _ (by decide), z6 _ (by decide), z5 _ (by decide), z4 _ (by decide), z3 _ (by decide)])
  rw [← d8] at e8
  obtain ⟨M9, d9, k9, z9, o9⟩ : ∃ M', M' = ma M8 9 (mvP id (M.2.2 9) 16 fr to 16) ∧ (∀ b, b < 9 → M'.2.2 b = M8.2.2 b) ∧ (∀ b, 9 < b → M'.2.2 b = M8.2.2 b) ∧ M'.2.2 9 = mvP id (M.2.2 9) 16 fr to 16 := ⟨_, rfl, fun b hb => up_n _ _ (by omega), fun b hb => up_n _ _ (by omega), up_s _ _ _⟩
  have u9 : M9.1 = M.1 ∧ M9.2.1 = M.2.1 := by subst d9; exact u8
  have e9 := mv_9 (X := X) (C := C) (T := T) (M := M8) N hN hf ht hne (f := M.2.2 9) (by rw [z8 _ (by decide), z7 _ (by decide), z6 _ (by decide), z5 _ (by decide), z4 _ (by decide), z3 _ (by decide)])
  rw [← d9] at e9
  obtain ⟨M10, d10, k10, z10, o10⟩ : ∃ M', M' = ma M9 10 (mvP id (M.2.2 10) 1 fr to 1) ∧ (∀ b, b < 10 → M'.2.2 b = M9.2.2 b) ∧ (∀ b, 10 < b → M'.2.2 b = M9.2.2 b) ∧ M'.2.2 10 = mvP id (M.2.2 10) 1 fr to 1 := ⟨_, rfl, fun b hb => up_n _ _ (by omega), fun b hb => up_n _ _ (by omega), up_s _ _ _⟩
  have u10 : M10.1 = M.1 ∧ M10.2.1 = M.2.1 := by subst d10; exact u9
  have e10 := mv_10 (X := X) (C := C) (T := T) (M := M9) N hN hf ht hne (f := M.2.2 10) (by rw [z9 _ (by decide), z8 _ (by decide), z7 _ (by decide), z6 _ (by decide), z5 _ (by decide), z4 _ (by decide), z3 _ (by decide)])
  rw [← d10] at e10
  obtain ⟨M11, d11, k11, z11, o11⟩ : ∃ M', M' = ma M10 11 (mvP id (M.2.2 11) 800 fr to 800) ∧ (∀ b, b < 11 → M'.2.2 b = M10.2.2 b) ∧ (∀ b, 11 < b → M'.2.2 b = M10.2.2 b) ∧ M'.2.2 11 = mvP id (M.2.2 11) 800 fr to 800 := ⟨_, rfl, fun b hb => up_n _ _ (by omega), fun b hb => up_n _ _ (by omega), up_s _ _ _⟩
  have u11 : M11.1 = M.1 ∧ M11.2.1 = M.2.1 := by subst d11; exact u10
  have e11 := mv_11 (X := X) (C := C) (T := T) (M := M10) N hN hf ht hne (f := M.2.2 11) (by rw [z10 _ (by decide), z9 _ (by decide), z8 _ (by decide), z7 _ (by decide), z6 _ (by decide), z5 _ (by decide), z4 _ (by decide), z3 _ (by decide)])
  rw [← d11] at e11
  obtain ⟨M12, d12, k12, z12, o12⟩ : ∃ M', M' = ma M11 12 (mvP id (M.2.2 12) 200 fr to 200) ∧ (∀ b, b < 12 → M'.2.2 b = M11.2.2 b) ∧ (∀ b, 12 < b → M'.2.2 b = M11.2.2 b) ∧ M'.2.2 12 = mvP id (M.2.2 12) 200 fr to 200 := ⟨_, rfl, fun b hb => up_n _ _ (by omega), fun b hb => up_n _ _ (by omega), up_s _ _ _⟩
  have u12 : M12.1 = M.1 ∧ M12.2.1 = M.2.1 := by subst d12; exact u11
  have e12 := mv_12 (X := X) (C := C) (T := T) (M := M11) N hN hf ht hne (f := M.2.2 12) (by rw [z11 _ (by decide), z10 _ (by decide), z9 _ (by decide), z8 _ (by decide), z7 _ (by decide), z6 _ (by decide), z5 _ (by decide), z4 _ (by decide), z3 _ (by decide)])
  rw [← d12] at e12
  obtain ⟨M13, d13, k13, z13, o13⟩ : ∃ M', M' = ma M12 13 (mvP id (M.2.2 13) 4 fr to 4) ∧ (∀ b, b < 13 → M'.2.2 b = M12.2.2 b) ∧ (∀ b, 13 < b → M'.2.2 b = M12.2.2 b) ∧ M'.2.2 13 = mvP id (M.2.2 13) 4 fr to 4 := ⟨_, rfl, fun b hb => up_n _ _ (by omega), fun b hb => up_n _ _ (by omega), up_s _ _ _⟩
  have u13 : M13.1 = M.1 ∧ M13.2.1 = M.2.1 := by subst d13; exact u12
  have e13 := mv_13 (X := X) (C := C) (T := T) (M := M12) N hN hf ht hne (f := M.2.2 13) (by rw [z12 _ (by decide), z11 _ (by decide), z10 _ (by decide), z9 _ (by decide), z8 _ (by decide), z7 _ (by decide), z6 _ (by decide), z5 _ (by decide), z4 _ (by decide), z3 _ (by decide)])
  rw [← d13] at e13
  obtain ⟨M14, d14, k14, z14, o14⟩ : ∃ M', M' = ma M13 14 (mvP id (M.2.2 14) 4 fr to 4) ∧ (∀ b, b < 14 → M'.2.2 b = M13.2.2 b) ∧ (∀ b, 14 < b → M'.2.2 b = M13.2.2 b) ∧ M'.2.2 14 = mvP id (M.2.2 14) 4 fr to 4 := ⟨_, rfl, fun b hb => up_n _ _ (by omega), fun b hb => up_n _ _ (by omega), up_s _ _ _⟩
  have u14 : M14.1 = M.1 ∧ M14.2.1 = M.2.1 := by subst d14; exact u13
  have e14 := mv_14 (X := X) (C := C) (T := T) (M := M13) N hN hf ht hne (f := M.2.2 14) (by rw [z13 _ (by decide), z12 _ (by decide), z11 _ (by decide), z10 _ (by decide), z9 _ (by decide), z8 _ (by decide), z7 _ (by decide), z6 _ (by decide), z5 _ (by decide), z4 _ (by decide), z3 _ (by decide)])
  rw [← d14] at e14
  obtain ⟨M15, d15, k15, z15, o15⟩ : ∃ M', M' = ma M14 15 (mvP id (M.2.2 15) 384 fr to 384) ∧ (∀ b, b < 15 → M'.2.2 b = M14.2.2 b) ∧ (∀ b, 15 < b → M'.2.2 b = M14.2.2 b) ∧ M'.2.2 15 = mvP id (M.2.2 15) 384 fr to 384 := ⟨_, rfl, fun b hb => up_n _ _ (by omega), fun b hb => up_n _ _ (by omega), up_s _ _ _⟩
  have u15 : M15.1 = M.1 ∧ M15.2.1 = M.2.1 := by subst d15; exact u14
  have e15 := mv_15 (X := X) (C := C) (T := T) (M := M14) N hN hf ht hne (f := M.2.2 15) (by rw [z14 _ (by decide), z13 _ (by decide), z12 _ (by decide), z11 _ (by decide), z10 _ (by decide), z9 _ (by decide), z8 _ (by decide), z7 _ (by decide), z6 _ (by decide), z5 _ (by decide), z4 _ (by decide), z3 _ (by decide)])
  rw [← d15] at e15
  obtain ⟨M17, d17, k17, z17, o17⟩ : ∃ M', M' = ma M15 17 (mvP id (M.2.2 17) 3600 fr to 3600) ∧ (∀ b, b < 17 → M'.2.2 b = M15.2.2 b) ∧ (∀ b, 17 < b → M'.2.2 b = M15.2.2 b) ∧ M'.2.2 17 = mvP id (M.2.2 17) 3600 fr to 3600 := ⟨_, rfl, fun b hb => up_n _ _ (by omega), fun b hb => up_n _ _ (by omega), up_s _ _ _⟩
  have u17 : M17.1 = M.1 ∧ M17.2.1 = M.2.1 := by subst d17; exact u15
  have e17 := mv_17 (X := X) (C := C) (T := T) (M := M15) N hN hf ht hne (f := M.2.2 17) (by rw [z15 _ (by decide), z14 _ (by decide), z13 _ (by decide), z12 _ (by decide), z11 _ (by decide), z10 _ (by decide), z9 _ (by decide), z8 _ (by decide), z7 _ (by decide), z6 _ (by decide), z5 _ (by decide), z4 _ (by decide), z3 _ (by decide)])
  rw [← d17] at e17
  have hb16 : M17.2.2 16 = M.2.2 16 := by rw [k17 _ (by decide), z15 _ (by decide), z14 _ (by decide), z13 _ (by decide), z12 _ (by decide), z11 _ (by decide), z10 _ (by decide), z9 _ (by decide), z8 _ (by decide), z7 _ (by decide), z6 _ (by decide), z5 _ (by decide), z4 _ (by decide), z3 _ (by decide)]
  have e16 := m_copyB (X := X) (C := C) (T := T) N hf ht hne 3600 N 0 M17 (M.2.2 16) (by rw [mvP_0]; exact hb16) rfl (by omega)
  rw [nI_0] at e16
  simp only [f_X11_copy, b_X11_copy, io_32, if_true, gr_32_3, gr_32_4, gr_32_5, gr_32_6, gr_32_7, gr_32_8, gr_32_9, gr_32_10, gr_32_11, gr_32_12, gr_32_13, gr_32_14, gr_32_15, gr_32_17, Option.bind_some, e3, e4, e5, e6, e7, e8, e9, e10, e11, e12, e13, e14, e15, e17, e16]
  refine congrArg some (congrArg (fun m => hp X C m T) ?_)
  refine Prod.ext u17.1 (Prod.ext u17.2 ?_)
  funext a
  by_cases h16 : a = 16
  · subst h16; exact up_s _ _ _
  · refine (up_n _ _ h16).trans ?_
    by_cases h3 : a < 3
    · rw [k17 a (by omega), k15 a (by omega), k14 a (by omega), k13 a (by omega), k12 a (by omega), k11 a (by omega), k10 a (by omega), k9 a (by omega), k8 a (by omega), k7 a (by omega), k6 a (by omega), k5 a (by omega), k4 a (by omega), k3 a (by omega)]
      rcases (show a = 0 ∨ a = 1 ∨ a = 2 by omega) with h | h | h <;> subst h <;> exact mvP_0.symm
    · by_cases h17 : 17 < a
      · rw [z17 a (by omega), z15 a (by omega), z14 a (by omega), z13 a (by omega), z12 a (by omega), z11 a (by omega), z10 a (by omega), z9 a (by omega), z8 a (by omega), z7 a (by omega), z6 a (by omega), z5 a (by omega), z4 a (by omega), z3 a (by omega)]
        have sz : szA a = 0 := by unfold szA; repeat (first | rw [if_neg (by omega)])
        unfold cpB
        rw [if_neg h16, sz, mvP_0]
      · rcases (show a = 3 ∨ a = 4 ∨ a = 5 ∨ a = 6 ∨ a = 7 ∨ a = 8 ∨ a = 9 ∨ a = 10 ∨ a = 11 ∨ a = 12 ∨ a = 13 ∨ a = 14 ∨ a = 15 ∨ a = 17 by omega) with h | h | h | h | h | h | h | h | h | h | h | h | h | h <;> subst h
        · rw [k17 _ (by decide), k15 _ (by decide), k14 _ (by decide), k13 _ (by decide), k12 _ (by decide), k11 _ (by decide), k10 _ (by decide), k9 _ (by decide), k8 _ (by decide), k7 _ (by decide), k6 _ (by decide), k5 _ (by decide), k4 _ (by decide), o3]; rfl
        · rw [k17 _ (by decide), k15 _ (by decide), k14 _ (by decide), k13 _ (by decide), k12 _ (by decide), k11 _ (by decide), k10 _ (by decide), k9 _ (by decide), k8 _ (by decide), k7 _ (by decide), k6 _ (by decide), k5 _ (by decide), o4]; rfl
        · rw [k17 _ (by decide), k15 _ (by decide), k14 _ (by decide), k13 _ (by decide), k12 _ (by decide), k11 _ (by decide), k10 _ (by decide), k9 _ (by decide), k8 _ (by decide), k7 _ (by decide), k6 _ (by decide), o5]; rfl
        · rw [k17 _ (by decide), k15 _ (by decide), k14 _ (by decide), k13 _ (by decide), k12 _ (by decide), k11 _ (by decide), k10 _ (by decide), k9 _ (by decide), k8 _ (by decide), k7 _ (by decide), o6]; rfl
        · rw [k17 _ (by decide), k15 _ (by decide), k14 _ (by decide), k13 _ (by decide), k12 _ (by decide), k11 _ (by decide), k10 _ (by decide), k9 _ (by decide), k8 _ (by decide), o7]; rfl
        · rw [k17 _ (by decide), k15 _ (by decide), k14 _ (by decide), k13 _ (by decide), k12 _ (by decide), k11 _ (by decide), k10 _ (by decide), k9 _ (by decide), o8]; rfl
        · rw [k17 _ (by decide), k15 _ (by decide), k14 _ (by decide), k13 _ (by decide), k12 _ (by decide), k11 _ (by decide), k10 _ (by decide), o9]; rfl
        · rw [k17 _ (by decide), k15 _ (by decide), k14 _ (by decide), k13 _ (by decide), k12 _ (by decide), k11 _ (by decide), o10]; rfl
        · rw [k17 _ (by decide), k15 _ (by decide), k14 _ (by decide), k13 _ (by decide), k12 _ (by decide), o11]; rfl
        · rw [k17 _ (by decide), k15 _ (by decide), k14 _ (by decide), k13 _ (by decide), o12]; rfl
        · rw [k17 _ (by decide), k15 _ (by decide), k14 _ (by decide), o13]; rfl
        · rw [k17 _ (by decide), k15 _ (by decide), o14]; rfl
        · rw [k17 _ (by decide), o15]; rfl
        · rw [o17]; rfl
theorem cpB_to {b : Nat → Nat → Int32} {fr to a i : Nat} (ha : a ≠ 16) (hi : i < szA a) : cpB b fr to a (szA a * to + i) = b a (szA a * fr + i) := by
  unfold cpB
  rw [if_neg ha]
  unfold mvP
  rw [if_pos (by omega), Nat.add_sub_cancel_left]; rfl
theorem cpB_16 {b : Nat → Nat → Int32} {fr to i : Nat} (hi : i < 3600) : cpB b fr to 16 (3600 * to + i) = (b 16 (3600 * fr + i)).toInt8.toInt32 := by
  unfold cpB
  rw [if_pos rfl]
  unfold mvP
  rw [if_pos (by omega), Nat.add_sub_cancel_left]
theorem cpB_no {b : Nat → Nat → Int32} {fr to a : Nat} (h : szA a = 0) : cpB b fr to a = b a := by
  unfold cpB
  have : a ≠ 16 := by rintro rfl; exact absurd h (by decide)
  rw [if_neg this, h, mvP_0]
theorem cpB_agr {b : Nat → Nat → Int32} {fr to j : Nat} (h : j ≠ to) : Agr j b (cpB b fr to) := by
  intro a i hi
  have key : ∀ n i, i < n → ¬ (n * to ≤ n * j + i ∧ n * j + i < n * to + n) := by
    rintro n i hi ⟨h1, h2⟩
    rcases Nat.lt_or_gt_of_ne h with q | q
    · have : n * (j + 1) ≤ n * to := Nat.mul_le_mul_left _ q
      rw [Nat.mul_add] at this; omega
    · have : n * (to + 1) ≤ n * j := Nat.mul_le_mul_left _ q
      rw [Nat.mul_add] at this; omega
  unfold cpB
  by_cases h16 : a = 16
  · subst h16
    rw [if_pos rfl]; unfold mvP
    exact if_neg (key 3600 i hi)
  · rw [if_neg h16]; unfold mvP
    exact if_neg (key (szA a) i hi)
theorem b_small : ∀ n, n < 14 → (nI n).toInt8.toInt32 = nI n := by decide +kernel
theorem opS_lt {d : Nat} (h : d < 7) : opS d < 13 := by
  unfold opS
  split
  · omega
  · split
    · omega
    · split
      · omega
      · split <;> omega
theorem tmS_lt {t : Nat} (h : t < 1005) : (tmS t).1 < 6 := by unfold tmS; split <;> simp <;> omega
theorem mcode_lt {l : List (Nat × Nat × Nat)} (h : ∀ x ∈ l, x.1 < 7 ∧ x.2.1 < 1005 ∧ x.2.2 < 1005) : ∀ x ∈ mcode l, x.1 < 14 := by
  intro x hx
  unfold mcode at hx
  rw [List.mem_append] at hx
  rcases hx with hx | hx
  · rw [List.mem_flatMap] at hx
    obtain ⟨y, hy, hx⟩ := hx
    obtain ⟨h1, h2, h3⟩ := h y hy
    unfold expS at hx
    split at hx
    · simp only [List.mem_cons, List.not_mem_nil, or_false] at hx
      rcases hx with rfl | rfl | rfl
      · have := tmS_lt h2; omega
      · have := tmS_lt h3; omega
      · have := opS_lt h1; show opS _ < 14; omega
    · simp only [List.mem_cons, List.not_mem_nil, or_false] at hx
      subst hx
      have := opS_lt h1; show opS _ < 14; omega
  · simp only [List.mem_cons, List.not_mem_nil, or_false] at hx
    subst hx; decide
theorem MTab.cp {t : TLD} {fr to : Nat} {b : Nat → Nat → Int32} (h : MTab t fr b) (hw : WTld t) : MTab t to (cpB b fr to) := by
  obtain ⟨h1, h2, h3, h4, h5, h6⟩ := h
  obtain ⟨w1, w2, w3, -⟩ := hw
  have e : ∀ (a n x y i : Nat), szA a = n → a ≠ 16 → x = n * to + i → y = n * fr + i → i < n → cpB b fr to a x = b a y := by
    intro a n x y i hn ha hx hy hi
    subst hn; subst hx; subst hy
    exact cpB_to ha hi
  refine ⟨?_, ?_, ?_, fun i p hp => ?_, fun i p hp => ?_, fun i p hp => ?_⟩
  · rw [e 3 1 _ fr 0 rfl (by decide) (by omega) (by omega) (by omega)]; exact h1
  · rw [e 6 1 _ fr 0 rfl (by decide) (by omega) (by omega) (by omega)]; exact h2
  · rw [e 10 1 _ fr 0 rfl (by decide) (by omega) (by omega) (by omega)]; exact h3
  · have := at_lt hp
    rw [e 4 16 _ _ i rfl (by decide) rfl rfl (by omega), e 5 16 _ _ i rfl (by decide) rfl rfl (by omega)]; exact h4 i p hp
  · have := at_lt hp
    rw [e 7 16 _ _ i rfl (by decide) rfl rfl (by omega), e 8 16 _ _ i rfl (by decide) rfl rfl (by omega), e 9 16 _ _ i rfl (by decide) rfl rfl (by omega)]; exact h5 i p hp
  · have := at_lt hp
    rw [e 11 800 _ _ (i * 4) rfl (by decide) rfl rfl (by omega), e 11 800 _ _ (i * 4 + 1) rfl (by decide) rfl rfl (by omega), e 11 800 _ _ (i * 4 + 2) rfl (by decide) rfl rfl (by omega), e 11 800 _ _ (i * 4 + 3) rfl (by decide) rfl rfl (by omega), e 12 200 _ _ i rfl (by decide) rfl rfl (by omega)]; exact h6 i p hp
theorem MSl.cp {sl : Nat → RSV} {fr to : Nat} {b : Nat → Nat → Int32} (h : MSl b fr sl) (hw : ∀ i, i < 4 → WRs (sl i)) : MSl (cpB b fr to) to sl := by
  have e : ∀ (a n x y i : Nat), szA a = n → a ≠ 16 → x = n * to + i → y = n * fr + i → i < n → cpB b fr to a x = b a y := by
    intro a n x y i hn ha hx hy hi
    subst hn; subst hx; subst hy
    exact cpB_to ha hi
  intro i hi
  obtain ⟨h1, h2, h3⟩ := h i hi
  obtain ⟨w1, w2, w3⟩ := hw i hi
  refine ⟨?_, ?_, fun k l hl => ?_⟩
  · rw [e 13 4 _ _ i rfl (by decide) rfl rfl hi]; exact h1
  · rw [e 14 4 _ _ i rfl (by decide) rfl rfl hi]; exact h2
  · have hk := at_lt hl
    obtain ⟨g1, g2, g3, g4, g5, g6, g7⟩ := h3 k l hl
    have e15 : ∀ c, c < 8 → cpB b fr to 15 (96 * (4 * to + i) + (8 * k + c)) = b 15 (96 * (4 * fr + i) + (8 * k + c)) := fun c hc => e 15 384 _ _ (96 * i + 8 * k + c) rfl (by decide) (by omega) (by omega) (by omega)
    refine ⟨(e15 0 (by omega)).trans g1, (e15 1 (by omega)).trans g2, (e15 2 (by omega)).trans g3, (e15 3 (by omega)).trans g4, (e15 4 (by omega)).trans g5, (e15 5 (by omega)).trans g6, ?_⟩
    rcases g7 with ⟨g7, g8⟩ | ⟨g7, off, g8, g9, g10⟩
    · exact Or.inl ⟨g7, (e15 6 (by omega)).trans g8⟩
    · refine Or.inr ⟨g7, off, g8, (e15 6 (by omega)).trans g9, fun m x hx => ?_⟩
      have hm := at_lt hx
      obtain ⟨q1, q2⟩ := g10 m x hx
      have hx14 := mcode_lt (w3 l (List.mem_of_getElem? hl)).2.2.2.2.2.2.2.2 x (List.mem_of_getElem? hx)
      refine ⟨?_, ?_⟩
      · have := cpB_16 (b := b) (fr := fr) (to := to) (i := 900 * i + off + m) (by omega)
        rw [show 900 * (4 * to + i) + (off + m) = 3600 * to + (900 * i + off + m) by omega, this, show 3600 * fr + (900 * i + off + m) = 900 * (4 * fr + i) + (off + m) by omega, q1, b_small x.1 hx14]
      · rw [e 17 3600 _ _ (900 * i + off + m) rfl (by decide) (by omega) (show 900 * (4 * fr + i) + (off + m) = _ by omega) (by omega)]
        exact q2
end MIM
