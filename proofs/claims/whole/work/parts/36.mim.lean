/-! deps: 31.oph 32.dyn 33.cnt 34.tt -/
/-! the reference's copy of an image -/
section MIM
variable {X : XS} {C : CS} {M : MS} {T : TS} {S : SG} {K : Nat}
def mvF (f : Nat → Int32) (n fr to : Nat) (j : Nat) : Int32 := if n * to ≤ j ∧ j < n * to + n then f (n * fr + (j - n * to)) else f j
def mvP (g : Int32 → Int32) (f : Nat → Int32) (n fr to k : Nat) (j : Nat) : Int32 := if n * to ≤ j ∧ j < n * to + k then g (f (n * fr + (j - n * to))) else f j
theorem mvP_0 {g : Int32 → Int32} {f : Nat → Int32} {n fr to : Nat} : mvP g f n fr to 0 = f := by
  funext j; unfold mvP; rw [if_neg (by omega)]
theorem mvP_s {g : Int32 → Int32} {f : Nat → Int32} {n fr to k : Nat} : upd (mvP g f n fr to k) (n * to + k) (g (f (n * fr + k))) = mvP g f n fr to (k + 1) := by
  funext j
  by_cases h : j = n * to + k
  · subst h; rw [pk_us]; unfold mvP; rw [if_pos (by omega), Nat.add_sub_cancel_left]
  · rw [pk_un h]; unfold mvP
    by_cases q : n * to ≤ j ∧ j < n * to + k
    · rw [if_pos q, if_pos (by omega)]
    · rw [if_neg q, if_neg (by omega)]
theorem mvP_src {g : Int32 → Int32} {f : Nat → Int32} {n fr to k i : Nat} (hi : i < n) (hne : fr ≠ to) (hk : k ≤ n) : mvP g f n fr to k (n * fr + i) = f (n * fr + i) := by
  unfold mvP
  rw [if_neg]
  rintro ⟨h1, h2⟩
  rcases Nat.lt_or_gt_of_ne hne with h | h
  · have : n * (fr + 1) ≤ n * to := Nat.mul_le_mul_left _ h
    rw [Nat.mul_add] at this; omega
  · have : n * (to + 1) ≤ n * fr := Nat.mul_le_mul_left _ h
    rw [Nat.mul_add] at this; omega
theorem m_move (N : Nat) {P L n fr to : Nat} (A : (Nat → Int32) → LH) (hA : ∀ g, gc (A g) P = .inl (0, L, .inl g)) (hS : ∀ g g', sc (A g) P (.inl (0, L, .inl g')) = A g') (h8 : 8 ≤ P) (hf : n * fr + n ≤ L) (ht : n * to + n ≤ L) (hL : L < 2 ^ 31) (hne : fr ≠ to) (f : Nat → Int32) : ∀ (d m k : Nat), n = k + d → d < m → l_X11_move_3 N m (A (mvP id f n fr to k)) (some P) (nI n) (nI fr) (nI to) (nI k) = some (A (mvP id f n fr to n)) := by
  intro d
  induction d with
  | zero =>
    intro m k h1 h2
    obtain ⟨m, rfl⟩ : ∃ j, m = j + 1 := ⟨m - 1, by omega⟩
    have : k = n := by omega
    subst this
    simp only [l_X11_move_3, b_X11_move_3, nI_le (Nat.le_refl k) (by omega), if_true]
  | succ d ih =>
    intro m k h1 h2
    obtain ⟨m, rfl⟩ : ∃ j, m = j + 1 := ⟨m - 1, by omega⟩
    have hlt : ¬ nI n ≤ nI k := nI_ge (by omega) (by omega)
    have e1 := aI_at (hA (mvP id f n fr to k)) (k := n * fr + k) (by omega) hL
    rw [mvP_src (by omega) hne (by omega)] at e1
    have e2 := sI_at (x := f (n * fr + k)) (hA (mvP id f n fr to k)) (k := n * to + k) (by omega) hL h8
    rw [hS] at e2
    have e3 : upd (mvP id f n fr to k) (n * to + k) (f (n * fr + k)) = mvP id f n fr to (k + 1) := mvP_s (g := id)
    rw [e3] at e2
    simp only [l_X11_move_3, b_X11_move_3, hlt, if_false, pk_mul, nI_add, e1, e2, Option.bind_some, nI_1]
    exact ih m (k + 1) (by omega) (by omega)
theorem m_move0 (N : Nat) {P L n fr to : Nat} (A : (Nat → Int32) → LH) (hA : ∀ g, gc (A g) P = .inl (0, L, .inl g)) (hS : ∀ g g', sc (A g) P (.inl (0, L, .inl g')) = A g') (h8 : 8 ≤ P) (hf : n * fr + n ≤ L) (ht : n * to + n ≤ L) (hL : L < 2 ^ 31) (hne : fr ≠ to) (hN : n < N) (f : Nat → Int32) : f_X11_move N (A f) (some P) (nI n) (nI fr) (nI to) = some (A (mvP id f n fr to n)) := by
  have := m_move N A hA hS h8 hf ht hL hne f n N 0 (by omega) hN
  rw [mvP_0, nI_0] at this
  exact this
theorem ma_id (M : MS) (a : Nat) : ma M a (M.2.2 a) = M := by
  unfold ma
  refine Prod.ext rfl (Prod.ext rfl ?_)
  funext j
  by_cases h : j = a
  · subst h; exact up_s _ _ _
  · exact up_n _ _ h
theorem m_copyB (N : Nat) {fr to : Nat} (hf : fr < 4) (ht : to < 4) (hne : fr ≠ to) : ∀ (d m k : Nat) (M : MS) (f : Nat → Int32), M.2.2 16 = mvP (fun x => x.toInt8.toInt32) f 3600 fr to k → 3600 = k + d → d < m → l_X11_copy_155 N m (hp X C M T) (some 35) (nI fr) (nI to) (nI k) = some (hp X C (ma M 16 (mvP (fun x => x.toInt8.toInt32) f 3600 fr to 3600)) T) := by
  intro d
  have t36 : nI 3600 = 3600 := by decide
  induction d with
  | zero =>
    intro m k M f hM h1 h2
    obtain ⟨m, rfl⟩ : ∃ j, m = j + 1 := ⟨m - 1, by omega⟩
    have : k = 3600 := by omega
    subst this
    rw [← hM]
    have e := ma_id M 16
    rw [e]
    simp only [l_X11_copy_155, b_X11_copy_155, ← t36, nI_le (Nat.le_refl 3600) (by decide), if_true]
  | succ d ih =>
    intro m k M f hM h1 h2
    obtain ⟨m, rfl⟩ : ∃ j, m = j + 1 := ⟨m - 1, by omega⟩
    have hlt : ¬ (3600 : Int32) ≤ nI k := by rw [← t36]; exact nI_ge (by omega) (by omega)
    have b1 : 3600 * fr + k < 14400 := by omega
    have b2 : 3600 * to + k < 14400 := by omega
    have e1 := ai_50 (X := X) (C := C) (M := M) (T := T) (k := 3600 * fr + k) b1
    rw [hM, mvP_src (by omega) hne (by omega)] at e1
    have e2 := si_50 (X := X) (C := C) (M := M) (T := T) (k := 3600 * to + k) (x := (f (3600 * fr + k)).toInt8.toInt32) b2
    rw [hM] at e2
    have e3 : upd (mvP (fun x => x.toInt8.toInt32) f 3600 fr to k) (3600 * to + k) ((f (3600 * fr + k)).toInt8.toInt32) = mvP (fun x => x.toInt8.toInt32) f 3600 fr to (k + 1) := mvP_s (g := fun x => x.toInt8.toInt32)
    rw [e3] at e2
    have ihh := ih m (k + 1) (ma M 16 (mvP (fun x => x.toInt8.toInt32) f 3600 fr to (k + 1))) f rfl (by omega) (by omega)
    rw [mama] at ihh
    simp only [l_X11_copy_155, b_X11_copy_155, hlt, if_false, gr_35_16, Option.bind_some]
    rw [← t36]
    simp only [pk_mul, nI_add, e1, e2, Option.bind_some, nI_1]
    exact ihh
/-- rows 3 to 17 of image fr put over those of image to -/
def cpB (b : Nat → Nat → Int32) (fr to : Nat) (a : Nat) : Nat → Int32 := if a = 16 then mvP (fun x => x.toInt8.toInt32) (b 16) 3600 fr to 3600 else mvP id (b a) (szA a) fr to (szA a)
theorem m_mv (N : Nat) {fr to : Nat} (hf : fr < 4) (ht : to < 4) (hne : fr ≠ to) (P L n a : Nat) (M : MS) (hA : ∀ g, gc (hp X C (ma M a g) T) P = .inl (0, L, .inl g)) (hS : ∀ g g', sc (hp X C (ma M a g) T) P (.inl (0, L, .inl g')) = hp X C (ma M a g') T) (h8 : 8 ≤ P) (hL : 4 * n ≤ L) (hL2 : L < 2 ^ 31) (hnN : n < N) : f_X11_move N (hp X C M T) (some P) (nI n) (nI fr) (nI to) = some (hp X C (ma M a (mvP id (M.2.2 a) n fr to n)) T) := by
  have e := ma_id M a
  have q1 : n * (fr + 1) ≤ n * 4 := Nat.mul_le_mul_left _ hf
  have q2 : n * (to + 1) ≤ n * 4 := Nat.mul_le_mul_left _ ht
  rw [Nat.mul_add] at q1 q2
  have := m_move0 N (fun g => hp X C (ma M a g) T) hA hS h8 (n := n) (fr := fr) (to := to) (by omega) (by omega) hL2 hne hnN (M.2.2 a)
  simp only [e] at this
  exact this
theorem mv_3 (N : Nat) (hN : 4000 ≤ N) {fr to : Nat} (hf : fr < 4) (ht : to < 4) (hne : fr ≠ to) {f : Nat → Int32} (h : M.2.2 3 = f) : f_X11_move N (hp X C M T) (some 37) 1 (nI fr) (nI to) = some (hp X C (ma M 3 (mvP id f 1 fr to 1)) T) := by
  subst h
  have e := m_mv (X := X) (C := C) (T := T) N hf ht hne 37 4 1 3 M (fun _ => rfl) (fun g g' => by rw [sc_37, mama]) (by decide) (by decide) (by decide) (by omega)
  rwa [show nI 1 = 1 by decide] at e
theorem mv_4 (N : Nat) (hN : 4000 ≤ N) {fr to : Nat} (hf : fr < 4) (ht : to < 4) (hne : fr ≠ to) {f : Nat → Int32} (h : M.2.2 4 = f) : f_X11_move N (hp X C M T) (some 38) 16 (nI fr) (nI to) = some (hp X C (ma M 4 (mvP id f 16 fr to 16)) T) := by
  subst h
  have e := m_mv (X := X) (C := C) (T := T) N hf ht hne 38 64 16 4 M (fun _ => rfl) (fun g g' => by rw [sc_38, mama]) (by decide) (by decide) (by decide) (by omega)
  rwa [show nI 16 = 16 by decide] at e
theorem mv_5 (N : Nat) (hN : 4000 ≤ N) {fr to : Nat} (hf : fr < 4) (ht : to < 4) (hne : fr ≠ to) {f : Nat → Int32} (h : M.2.2 5 = f) : f_X11_move N (hp X C M T) (some 39) 16 (nI fr) (nI to) = some (hp X C (ma M 5 (mvP id f 16 fr to 16)) T) := by
  subst h
  have e := m_mv (X := X) (C := C) (T := T) N hf ht hne 39 64 16 5 M (fun _ => rfl) (fun g g' => by rw [sc_39, mama]) (by decide) (by decide) (by decide) (by omega)
  rwa [show nI 16 = 16 by decide] at e
theorem mv_6 (N : Nat) (hN : 4000 ≤ N) {fr to : Nat} (hf : fr < 4) (ht : to < 4) (hne : fr ≠ to) {f : Nat → Int32} (h : M.2.2 6 = f) : f_X11_move N (hp X C M T) (some 40) 1 (nI fr) (nI to) = some (hp X C (ma M 6 (mvP id f 1 fr to 1)) T) := by
  subst h
  have e := m_mv (X := X) (C := C) (T := T) N hf ht hne 40 4 1 6 M (fun _ => rfl) (fun g g' => by rw [sc_40, mama]) (by decide) (by decide) (by decide) (by omega)
  rwa [show nI 1 = 1 by decide] at e
theorem mv_7 (N : Nat) (hN : 4000 ≤ N) {fr to : Nat} (hf : fr < 4) (ht : to < 4) (hne : fr ≠ to) {f : Nat → Int32} (h : M.2.2 7 = f) : f_X11_move N (hp X C M T) (some 41) 16 (nI fr) (nI to) = some (hp X C (ma M 7 (mvP id f 16 fr to 16)) T) := by
  subst h
  have e := m_mv (X := X) (C := C) (T := T) N hf ht hne 41 64 16 7 M (fun _ => rfl) (fun g g' => by rw [sc_41, mama]) (by decide) (by decide) (by decide) (by omega)
  rwa [show nI 16 = 16 by decide] at e
theorem mv_8 (N : Nat) (hN : 4000 ≤ N) {fr to : Nat} (hf : fr < 4) (ht : to < 4) (hne : fr ≠ to) {f : Nat → Int32} (h : M.2.2 8 = f) : f_X11_move N (hp X C M T) (some 42) 16 (nI fr) (nI to) = some (hp X C (ma M 8 (mvP id f 16 fr to 16)) T) := by
  subst h
  have e := m_mv (X := X) (C := C) (T := T) N hf ht hne 42 64 16 8 M (fun _ => rfl) (fun g g' => by rw [sc_42, mama]) (by decide) (by decide) (by decide) (by omega)
  rwa [show nI 16 = 16 by decide] at e
theorem mv_9 (N : Nat) (hN : 4000 ≤ N) {fr to : Nat} (hf : fr < 4) (ht : to < 4) (hne : fr ≠ to) {f : Nat → Int32} (h : M.2.2 9 = f) : f_X11_move N (hp X C M T) (some 43) 16 (nI fr) (nI to) = some (hp X C (ma M 9 (mvP id f 16 fr to 16)) T) := by
  subst h
  have e := m_mv (X := X) (C := C) (T := T) N hf ht hne 43 64 16 9 M (fun _ => rfl) (fun g g' => by rw [sc_43, mama]) (by decide) (by decide) (by decide) (by omega)
  rwa [show nI 16 = 16 by decide] at e
theorem mv_10 (N : Nat) (hN : 4000 ≤ N) {fr to : Nat} (hf : fr < 4) (ht : to < 4) (hne : fr ≠ to) {f : Nat → Int32} (h : M.2.2 10 = f) : f_X11_move N (hp X C M T) (some 44) 1 (nI fr) (nI to) = some (hp X C (ma M 10 (mvP id f 1 fr to 1)) T) := by
  subst h
  have e := m_mv (X := X) (C := C) (T := T) N hf ht hne 44 4 1 10 M (fun _ => rfl) (fun g g' => by rw [sc_44, mama]) (by decide) (by decide) (by decide) (by omega)
  rwa [show nI 1 = 1 by decide] at e
theorem mv_11 (N : Nat) (hN : 4000 ≤ N) {fr to : Nat} (hf : fr < 4) (ht : to < 4) (hne : fr ≠ to) {f : Nat → Int32} (h : M.2.2 11 = f) : f_X11_move N (hp X C M T) (some 45) 800 (nI fr) (nI to) = some (hp X C (ma M 11 (mvP id f 800 fr to 800)) T) := by
  subst h
  have e := m_mv (X := X) (C := C) (T := T) N hf ht hne 45 3200 800 11 M (fun _ => rfl) (fun g g' => by rw [sc_45, mama]) (by decide) (by decide) (by decide) (by omega)
  rwa [show nI 800 = 800 by decide] at e
theorem mv_12 (N : Nat) (hN : 4000 ≤ N) {fr to : Nat} (hf : fr < 4) (ht : to < 4) (hne : fr ≠ to) {f : Nat → Int32} (h : M.2.2 12 = f) : f_X11_move N (hp X C M T) (some 46) 200 (nI fr) (nI to) = some (hp X C (ma M 12 (mvP id f 200 fr to 200)) T) := by
  subst h
  have e := m_mv (X := X) (C := C) (T := T) N hf ht hne 46 800 200 12 M (fun _ => rfl) (fun g g' => by rw [sc_46, mama]) (by decide) (by decide) (by decide) (by omega)
  rwa [show nI 200 = 200 by decide] at e
theorem mv_13 (N : Nat) (hN : 4000 ≤ N) {fr to : Nat} (hf : fr < 4) (ht : to < 4) (hne : fr ≠ to) {f : Nat → Int32} (h : M.2.2 13 = f) : f_X11_move N (hp X C M T) (some 47) 4 (nI fr) (nI to) = some (hp X C (ma M 13 (mvP id f 4 fr to 4)) T) := by
  subst h
  have e := m_mv (X := X) (C := C) (T := T) N hf ht hne 47 16 4 13 M (fun _ => rfl) (fun g g' => by rw [sc_47, mama]) (by decide) (by decide) (by decide) (by omega)
  rwa [show nI 4 = 4 by decide] at e
theorem mv_14 (N : Nat) (hN : 4000 ≤ N) {fr to : Nat} (hf : fr < 4) (ht : to < 4) (hne : fr ≠ to) {f : Nat → Int32} (h : M.2.2 14 = f) : f_X11_move N (hp X C M T) (some 48) 4 (nI fr) (nI to) = some (hp X C (ma M 14 (mvP id f 4 fr to 4)) T) := by
  subst h
  have e := m_mv (X := X) (C := C) (T := T) N hf ht hne 48 16 4 14 M (fun _ => rfl) (fun g g' => by rw [sc_48, mama]) (by decide) (by decide) (by decide) (by omega)
  rwa [show nI 4 = 4 by decide] at e
theorem mv_15 (N : Nat) (hN : 4000 ≤ N) {fr to : Nat} (hf : fr < 4) (ht : to < 4) (hne : fr ≠ to) {f : Nat → Int32} (h : M.2.2 15 = f) : f_X11_move N (hp X C M T) (some 49) 384 (nI fr) (nI to) = some (hp X C (ma M 15 (mvP id f 384 fr to 384)) T) := by
  subst h
  have e := m_mv (X := X) (C := C) (T := T) N hf ht hne 49 1536 384 15 M (fun _ => rfl) (fun g g' => by rw [sc_49, mama]) (by decide) (by decide) (by decide) (by omega)
  rwa [show nI 384 = 384 by decide] at e
theorem mv_17 (N : Nat) (hN : 4000 ≤ N) {fr to : Nat} (hf : fr < 4) (ht : to < 4) (hne : fr ≠ to) {f : Nat → Int32} (h : M.2.2 17 = f) : f_X11_move N (hp X C M T) (some 51) 3600 (nI fr) (nI to) = some (hp X C (ma M 17 (mvP id f 3600 fr to 3600)) T) := by
  subst h
  have e := m_mv (X := X) (C := C) (T := T) N hf ht hne 51 14400 3600 17 M (fun _ => rfl) (fun g g' => by rw [sc_51, mama]) (by decide) (by decide) (by decide) (by omega)
  rwa [show nI 3600 = 3600 by decide] at e
theorem ma_s (M : MS) (a : Nat) (f : Nat → Int32) : (ma M a f).2.2 a = f := by rw [ma_22, up_s]
theorem ma_n (M : MS) {a b : Nat} (f : Nat → Int32) (h : b ≠ a) : (ma M a f).2.2 b = M.2.2 b := by rw [ma_22, up_n _ _ h]
/-- the rows in L are put over -/
def cpR (M : MS) (fr to : Nat) (L : List Nat) : MS := (M.1, M.2.1, fun a => cond (L.contains a) (cpB M.2.2 fr to a) (M.2.2 a))
theorem cpR_at {fr to a : Nat} {L : List Nat} (h : L.contains a = false) : (cpR M fr to L).2.2 a = M.2.2 a := by show cond (L.contains a) _ _ = _; rw [h]; rfl
theorem cpR_up {fr to a : Nat} {L : List Nat} {g : Nat → Int32} (hg : g = cpB M.2.2 fr to a) : ma (cpR M fr to L) a g = cpR M fr to (a :: L) := by
  subst hg
  refine Prod.ext rfl (Prod.ext rfl ?_)
  funext j
  show (ma (cpR M fr to L) a _).2.2 j = cond ((a :: L).contains j) _ _
  rw [List.contains_cons]
  by_cases h : j = a
  · subst h; rw [ma_s]; simp
  · rw [ma_n _ _ h]
    have : (j == a) = false := by simp [h]
    rw [this, Bool.false_or]; rfl
theorem cpB_e {b : Nat → Nat → Int32} {fr to a n : Nat} (h : a ≠ 16) (hn : szA a = n) : mvP id (b a) n fr to n = cpB b fr to a := by
  subst hn; unfold cpB; rw [if_neg h]
theorem cpm_3 (N : Nat) (hN : 4000 ≤ N) {fr to : Nat} (hf : fr < 4) (ht : to < 4) (hne : fr ≠ to) : f_X11_move N (hp X C (cpR M fr to []) T) (some 37) 1 (nI fr) (nI to) = some (hp X C (cpR M fr to [3]) T) := by
  have e := mv_3 (X := X) (C := C) (T := T) (M := cpR M fr to []) N hN hf ht hne (f := M.2.2 3) (cpR_at (by decide))
  rw [cpR_up (M := M) (a := 3) (cpB_e (b := M.2.2) (fr := fr) (to := to) (a := 3) (n := 1) (by decide) (by decide))] at e
  exact e
theorem cpm_4 (N : Nat) (hN : 4000 ≤ N) {fr to : Nat} (hf : fr < 4) (ht : to < 4) (hne : fr ≠ to) : f_X11_move N (hp X C (cpR M fr to [3]) T) (some 38) 16 (nI fr) (nI to) = some (hp X C (cpR M fr to [4, 3]) T) := by
  have e := mv_4 (X := X) (C := C) (T := T) (M := cpR M fr to [3]) N hN hf ht hne (f := M.2.2 4) (cpR_at (by decide))
  rw [cpR_up (M := M) (a := 4) (cpB_e (b := M.2.2) (fr := fr) (to := to) (a := 4) (n := 16) (by decide) (by decide))] at e
  exact e
theorem cpm_5 (N : Nat) (hN : 4000 ≤ N) {fr to : Nat} (hf : fr < 4) (ht : to < 4) (hne : fr ≠ to) : f_X11_move N (hp X C (cpR M fr to [4, 3]) T) (some 39) 16 (nI fr) (nI to) = some (hp X C (cpR M fr to [5, 4, 3]) T) := by
  have e := mv_5 (X := X) (C := C) (T := T) (M := cpR M fr to [4, 3]) N hN hf ht hne (f := M.2.2 5) (cpR_at (by decide))
  rw [cpR_up (M := M) (a := 5) (cpB_e (b := M.2.2) (fr := fr) (to := to) (a := 5) (n := 16) (by decide) (by decide))] at e
  exact e
theorem cpm_6 (N : Nat) (hN : 4000 ≤ N) {fr to : Nat} (hf : fr < 4) (ht : to < 4) (hne : fr ≠ to) : f_X11_move N (hp X C (cpR M fr to [5, 4, 3]) T) (some 40) 1 (nI fr) (nI to) = some (hp X C (cpR M fr to [6, 5, 4, 3]) T) := by
  have e := mv_6 (X := X) (C := C) (T := T) (M := cpR M fr to [5, 4, 3]) N hN hf ht hne (f := M.2.2 6) (cpR_at (by decide))
  rw [cpR_up (M := M) (a := 6) (cpB_e (b := M.2.2) (fr := fr) (to := to) (a := 6) (n := 1) (by decide) (by decide))] at e
  exact e
theorem cpm_7 (N : Nat) (hN : 4000 ≤ N) {fr to : Nat} (hf : fr < 4) (ht : to < 4) (hne : fr ≠ to) : f_X11_move N (hp X C (cpR M fr to [6, 5, 4, 3]) T) (some 41) 16 (nI fr) (nI to) = some (hp X C (cpR M fr to [7, 6, 5, 4, 3]) T) := by
  have e := mv_7 (X := X) (C := C) (T := T) (M := cpR M fr to [6, 5, 4, 3]) N hN hf ht hne (f := M.2.2 7) (cpR_at (by decide))
  rw [cpR_up (M := M) (a := 7) (cpB_e (b := M.2.2) (fr := fr) (to := to) (a := 7) (n := 16) (by decide) (by decide))] at e
  exact e
theorem cpm_8 (N : Nat) (hN : 4000 ≤ N) {fr to : Nat} (hf : fr < 4) (ht : to < 4) (hne : fr ≠ to) : f_X11_move N (hp X C (cpR M fr to [7, 6, 5, 4, 3]) T) (some 42) 16 (nI fr) (nI to) = some (hp X C (cpR M fr to [8, 7, 6, 5, 4, 3]) T) := by
  have e := mv_8 (X := X) (C := C) (T := T) (M := cpR M fr to [7, 6, 5, 4, 3]) N hN hf ht hne (f := M.2.2 8) (cpR_at (by decide))
  rw [cpR_up (M := M) (a := 8) (cpB_e (b := M.2.2) (fr := fr) (to := to) (a := 8) (n := 16) (by decide) (by decide))] at e
  exact e
theorem cpm_9 (N : Nat) (hN : 4000 ≤ N) {fr to : Nat} (hf : fr < 4) (ht : to < 4) (hne : fr ≠ to) : f_X11_move N (hp X C (cpR M fr to [8, 7, 6, 5, 4, 3]) T) (some 43) 16 (nI fr) (nI to) = some (hp X C (cpR M fr to [9, 8, 7, 6, 5, 4, 3]) T) := by
  have e := mv_9 (X := X) (C := C) (T := T) (M := cpR M fr to [8, 7, 6, 5, 4, 3]) N hN hf ht hne (f := M.2.2 9) (cpR_at (by decide))
  rw [cpR_up (M := M) (a := 9) (cpB_e (b := M.2.2) (fr := fr) (to := to) (a := 9) (n := 16) (by decide) (by decide))] at e
  exact e
theorem cpm_10 (N : Nat) (hN : 4000 ≤ N) {fr to : Nat} (hf : fr < 4) (ht : to < 4) (hne : fr ≠ to) : f_X11_move N (hp X C (cpR M fr to [9, 8, 7, 6, 5, 4, 3]) T) (some 44) 1 (nI fr) (nI to) = some (hp X C (cpR M fr to [10, 9, 8, 7, 6, 5, 4, 3]) T) := by
  have e := mv_10 (X := X) (C := C) (T := T) (M := cpR M fr to [9, 8, 7, 6, 5, 4, 3]) N hN hf ht hne (f := M.2.2 10) (cpR_at (by decide))
  rw [cpR_up (M := M) (a := 10) (cpB_e (b := M.2.2) (fr := fr) (to := to) (a := 10) (n := 1) (by decide) (by decide))] at e
  exact e
theorem cpm_11 (N : Nat) (hN : 4000 ≤ N) {fr to : Nat} (hf : fr < 4) (ht : to < 4) (hne : fr ≠ to) : f_X11_move N (hp X C (cpR M fr to [10, 9, 8, 7, 6, 5, 4, 3]) T) (some 45) 800 (nI fr) (nI to) = some (hp X C (cpR M fr to [11, 10, 9, 8, 7, 6, 5, 4, 3]) T) := by
  have e := mv_11 (X := X) (C := C) (T := T) (M := cpR M fr to [10, 9, 8, 7, 6, 5, 4, 3]) N hN hf ht hne (f := M.2.2 11) (cpR_at (by decide))
  rw [cpR_up (M := M) (a := 11) (cpB_e (b := M.2.2) (fr := fr) (to := to) (a := 11) (n := 800) (by decide) (by decide))] at e
  exact e
theorem cpm_12 (N : Nat) (hN : 4000 ≤ N) {fr to : Nat} (hf : fr < 4) (ht : to < 4) (hne : fr ≠ to) : f_X11_move N (hp X C (cpR M fr to [11, 10, 9, 8, 7, 6, 5, 4, 3]) T) (some 46) 200 (nI fr) (nI to) = some (hp X C (cpR M fr to [12, 11, 10, 9, 8, 7, 6, 5, 4, 3]) T) := by
  have e := mv_12 (X := X) (C := C) (T := T) (M := cpR M fr to [11, 10, 9, 8, 7, 6, 5, 4, 3]) N hN hf ht hne (f := M.2.2 12) (cpR_at (by decide))
  rw [cpR_up (M := M) (a := 12) (cpB_e (b := M.2.2) (fr := fr) (to := to) (a := 12) (n := 200) (by decide) (by decide))] at e
  exact e
theorem cpm_13 (N : Nat) (hN : 4000 ≤ N) {fr to : Nat} (hf : fr < 4) (ht : to < 4) (hne : fr ≠ to) : f_X11_move N (hp X C (cpR M fr to [12, 11, 10, 9, 8, 7, 6, 5, 4, 3]) T) (some 47) 4 (nI fr) (nI to) = some (hp X C (cpR M fr to [13, 12, 11, 10, 9, 8, 7, 6, 5, 4, 3]) T) := by
  have e := mv_13 (X := X) (C := C) (T := T) (M := cpR M fr to [12, 11, 10, 9, 8, 7, 6, 5, 4, 3]) N hN hf ht hne (f := M.2.2 13) (cpR_at (by decide))
  rw [cpR_up (M := M) (a := 13) (cpB_e (b := M.2.2) (fr := fr) (to := to) (a := 13) (n := 4) (by decide) (by decide))] at e
  exact e
theorem cpm_14 (N : Nat) (hN : 4000 ≤ N) {fr to : Nat} (hf : fr < 4) (ht : to < 4) (hne : fr ≠ to) : f_X11_move N (hp X C (cpR M fr to [13, 12, 11, 10, 9, 8, 7, 6, 5, 4, 3]) T) (some 48) 4 (nI fr) (nI to) = some (hp X C (cpR M fr to [14, 13, 12, 11, 10, 9, 8, 7, 6, 5, 4, 3]) T) := by
  have e := mv_14 (X := X) (C := C) (T := T) (M := cpR M fr to [13, 12, 11, 10, 9, 8, 7, 6, 5, 4, 3]) N hN hf ht hne (f := M.2.2 14) (cpR_at (by decide))
  rw [cpR_up (M := M) (a := 14) (cpB_e (b := M.2.2) (fr := fr) (to := to) (a := 14) (n := 4) (by decide) (by decide))] at e
  exact e
theorem cpm_15 (N : Nat) (hN : 4000 ≤ N) {fr to : Nat} (hf : fr < 4) (ht : to < 4) (hne : fr ≠ to) : f_X11_move N (hp X C (cpR M fr to [14, 13, 12, 11, 10, 9, 8, 7, 6, 5, 4, 3]) T) (some 49) 384 (nI fr) (nI to) = some (hp X C (cpR M fr to [15, 14, 13, 12, 11, 10, 9, 8, 7, 6, 5, 4, 3]) T) := by
  have e := mv_15 (X := X) (C := C) (T := T) (M := cpR M fr to [14, 13, 12, 11, 10, 9, 8, 7, 6, 5, 4, 3]) N hN hf ht hne (f := M.2.2 15) (cpR_at (by decide))
  rw [cpR_up (M := M) (a := 15) (cpB_e (b := M.2.2) (fr := fr) (to := to) (a := 15) (n := 384) (by decide) (by decide))] at e
  exact e
theorem cpm_17 (N : Nat) (hN : 4000 ≤ N) {fr to : Nat} (hf : fr < 4) (ht : to < 4) (hne : fr ≠ to) : f_X11_move N (hp X C (cpR M fr to [15, 14, 13, 12, 11, 10, 9, 8, 7, 6, 5, 4, 3]) T) (some 51) 3600 (nI fr) (nI to) = some (hp X C (cpR M fr to [17, 15, 14, 13, 12, 11, 10, 9, 8, 7, 6, 5, 4, 3]) T) := by
  have e := mv_17 (X := X) (C := C) (T := T) (M := cpR M fr to [15, 14, 13, 12, 11, 10, 9, 8, 7, 6, 5, 4, 3]) N hN hf ht hne (f := M.2.2 17) (cpR_at (by decide))
  rw [cpR_up (M := M) (a := 17) (cpB_e (b := M.2.2) (fr := fr) (to := to) (a := 17) (n := 3600) (by decide) (by decide))] at e
  exact e
theorem cpm_16 (N : Nat) (hN : 4000 ≤ N) {fr to : Nat} (hf : fr < 4) (ht : to < 4) (hne : fr ≠ to) : l_X11_copy_155 N N (hp X C (cpR M fr to [17, 15, 14, 13, 12, 11, 10, 9, 8, 7, 6, 5, 4, 3]) T) (some 35) (nI fr) (nI to) 0 = some (hp X C (cpR M fr to [16, 17, 15, 14, 13, 12, 11, 10, 9, 8, 7, 6, 5, 4, 3]) T) := by
  have e := m_copyB (X := X) (C := C) (T := T) N hf ht hne 3600 N 0 (cpR M fr to [17, 15, 14, 13, 12, 11, 10, 9, 8, 7, 6, 5, 4, 3]) (M.2.2 16) (by rw [mvP_0]; exact cpR_at (by decide)) (by decide) (by omega)
  have e2 : mvP (fun x => x.toInt8.toInt32) (M.2.2 16) 3600 fr to 3600 = cpB M.2.2 fr to 16 := by unfold cpB; rw [if_pos rfl]
  rw [nI_0, cpR_up (M := M) (a := 16) e2] at e
  exact e
theorem cpR_all (fr to : Nat) : cpR M fr to [16, 17, 15, 14, 13, 12, 11, 10, 9, 8, 7, 6, 5, 4, 3] = (M.1, M.2.1, cpB M.2.2 fr to) := by
  unfold cpR
  congr 2
  funext a
  cases hc : List.contains [16, 17, 15, 14, 13, 12, 11, 10, 9, 8, 7, 6, 5, 4, 3] a with
  | true => rfl
  | false =>
    simp only [List.contains_cons, Bool.or_eq_false_iff, beq_eq_false_iff_ne, ne_eq] at hc
    obtain ⟨h1, h2, h3, h4, h5, h6, h7, h8, h9, h10, h11, h12, h13, h14, h15, -⟩ := hc
    have sz : szA a = 0 := by
      unfold szA
      rw [if_neg (by omega), if_neg (by omega), if_neg (by omega), if_neg (by omega), if_neg (by omega), if_neg (by omega), if_neg (by omega)]
    rw [cpB, if_neg h1, sz, mvP_0]; rfl
theorem m_copy (N : Nat) (hN : 4000 ≤ N) {fr to : Nat} (hf : fr < 4) (ht : to < 4) (hne : fr ≠ to) : f_X11_copy N (hp X C M T) (some 35) (nI fr) (nI to) = some (hp X C (M.1, M.2.1, cpB M.2.2 fr to) T) := by
  rw [← cpR_all]
  have e0 := cpm_3 (X := X) (C := C) (M := M) (T := T) N hN hf ht hne
  rw [show cpR M fr to [] = M from rfl] at e0
  unfold f_X11_copy b_X11_copy
  rw [io_35, if_pos rfl]
  simp only [gr_35_3, Option.bind_some, e0]
  simp only [gr_35_4, Option.bind_some, cpm_4 N hN hf ht hne]
  simp only [gr_35_5, Option.bind_some, cpm_5 N hN hf ht hne]
  simp only [gr_35_6, Option.bind_some, cpm_6 N hN hf ht hne]
  simp only [gr_35_7, Option.bind_some, cpm_7 N hN hf ht hne]
  simp only [gr_35_8, Option.bind_some, cpm_8 N hN hf ht hne]
  simp only [gr_35_9, Option.bind_some, cpm_9 N hN hf ht hne]
  simp only [gr_35_10, Option.bind_some, cpm_10 N hN hf ht hne]
  simp only [gr_35_11, Option.bind_some, cpm_11 N hN hf ht hne]
  simp only [gr_35_12, Option.bind_some, cpm_12 N hN hf ht hne]
  simp only [gr_35_13, Option.bind_some, cpm_13 N hN hf ht hne]
  simp only [gr_35_14, Option.bind_some, cpm_14 N hN hf ht hne]
  simp only [gr_35_15, Option.bind_some, cpm_15 N hN hf ht hne]
  simp only [gr_35_17, Option.bind_some, cpm_17 N hN hf ht hne]
  exact cpm_16 N hN hf ht hne
theorem cpB_to {b : Nat → Nat → Int32} {fr to a i : Nat} (ha : a ≠ 16) (hi : i < szA a) : cpB b fr to a (szA a * to + i) = b a (szA a * fr + i) := by
  unfold cpB
  rw [if_neg ha]
  unfold mvP
  rw [if_pos (by omega), Nat.add_sub_cancel_left]; rfl
theorem cpB_16 {b : Nat → Nat → Int32} {fr to i : Nat} (hi : i < 3600) : cpB b fr to 16 (3600 * to + i) = (b 16 (3600 * fr + i)).toInt8.toInt32 := by
  unfold cpB
  rw [if_pos rfl]
  unfold mvP
  rw [if_pos (by omega), Nat.add_sub_cancel_left]
theorem cpB_no {b : Nat → Nat → Int32} {fr to a : Nat} (h : szA a = 0) : cpB b fr to a = b a := by
  unfold cpB
  have : a ≠ 16 := by rintro rfl; exact absurd h (by decide)
  rw [if_neg this, h, mvP_0]
theorem cpB_agr {b : Nat → Nat → Int32} {fr to j : Nat} (h : j ≠ to) : Agr j b (cpB b fr to) := by
  intro a i hi
  have key : ∀ n i, i < n → ¬ (n * to ≤ n * j + i ∧ n * j + i < n * to + n) := by
    rintro n i hi ⟨h1, h2⟩
    rcases Nat.lt_or_gt_of_ne h with q | q
    · have : n * (j + 1) ≤ n * to := Nat.mul_le_mul_left _ q
      rw [Nat.mul_add] at this; omega
    · have : n * (to + 1) ≤ n * j := Nat.mul_le_mul_left _ q
      rw [Nat.mul_add] at this; omega
  unfold cpB
  by_cases h16 : a = 16
  · subst h16
    rw [if_pos rfl]; unfold mvP
    exact if_neg (key 3600 i hi)
  · rw [if_neg h16]; unfold mvP
    exact if_neg (key (szA a) i hi)
theorem b_small : ∀ n, n < 14 → (nI n).toInt8.toInt32 = nI n := by decide +kernel
theorem opS_lt {d : Nat} (h : d < 7) : opS d < 13 := by
  unfold opS
  split
  · omega
  · split
    · omega
    · split
      · omega
      · split <;> omega
theorem tmS_lt {t : Nat} (h : t < 1005) : (tmS t).1 < 6 := by unfold tmS; split <;> simp <;> omega
theorem mcode_lt {l : List (Nat × Nat × Nat)} (h : ∀ x ∈ l, x.1 < 7 ∧ x.2.1 < 1005 ∧ x.2.2 < 1005) : ∀ x ∈ mcode l, x.1 < 14 := by
  intro x hx
  unfold mcode at hx
  rw [List.mem_append] at hx
  rcases hx with hx | hx
  · rw [List.mem_flatMap] at hx
    obtain ⟨y, hy, hx⟩ := hx
    obtain ⟨h1, h2, h3⟩ := h y hy
    unfold expS at hx
    split at hx
    · simp only [List.mem_cons, List.not_mem_nil, or_false] at hx
      rcases hx with rfl | rfl | rfl
      · have := tmS_lt h2; omega
      · have := tmS_lt h3; omega
      · have := opS_lt h1; show opS _ < 14; omega
    · simp only [List.mem_cons, List.not_mem_nil, or_false] at hx
      subst hx
      have := opS_lt h1; show opS _ < 14; omega
  · simp only [List.mem_cons, List.not_mem_nil, or_false] at hx
    subst hx; decide
theorem MTab.cp {t : TLD} {fr to : Nat} {b : Nat → Nat → Int32} (h : MTab t fr b) (hw : WTld t) : MTab t to (cpB b fr to) := by
  obtain ⟨h1, h2, h3, h4, h5, h6⟩ := h
  obtain ⟨w1, w2, w3, -⟩ := hw
  have e : ∀ (a n x y i : Nat), szA a = n → a ≠ 16 → x = n * to + i → y = n * fr + i → i < n → cpB b fr to a x = b a y := by
    intro a n x y i hn ha hx hy hi
    subst hn; subst hx; subst hy
    exact cpB_to ha hi
  refine ⟨?_, ?_, ?_, fun i p hp => ?_, fun i p hp => ?_, fun i p hp => ?_⟩
  · rw [e 3 1 _ fr 0 rfl (by decide) (by omega) (by omega) (by omega)]; exact h1
  · rw [e 6 1 _ fr 0 rfl (by decide) (by omega) (by omega) (by omega)]; exact h2
  · rw [e 10 1 _ fr 0 rfl (by decide) (by omega) (by omega) (by omega)]; exact h3
  · have := at_lt hp
    rw [e 4 16 _ _ i rfl (by decide) rfl rfl (by omega), e 5 16 _ _ i rfl (by decide) rfl rfl (by omega)]; exact h4 i p hp
  · have := at_lt hp
    rw [e 7 16 _ _ i rfl (by decide) rfl rfl (by omega), e 8 16 _ _ i rfl (by decide) rfl rfl (by omega), e 9 16 _ _ i rfl (by decide) rfl rfl (by omega)]; exact h5 i p hp
  · have := at_lt hp
    rw [e 11 800 _ _ (i * 4) rfl (by decide) rfl rfl (by omega), e 11 800 _ _ (i * 4 + 1) rfl (by decide) rfl rfl (by omega), e 11 800 _ _ (i * 4 + 2) rfl (by decide) rfl rfl (by omega), e 11 800 _ _ (i * 4 + 3) rfl (by decide) rfl rfl (by omega), e 12 200 _ _ i rfl (by decide) rfl rfl (by omega)]; exact h6 i p hp
theorem MSl.cp {sl : Nat → RSV} {fr to : Nat} {b : Nat → Nat → Int32} (h : MSl b fr sl) (hw : ∀ i, i < 4 → WRs (sl i)) : MSl (cpB b fr to) to sl := by
  have e : ∀ (a n x y i : Nat), szA a = n → a ≠ 16 → x = n * to + i → y = n * fr + i → i < n → cpB b fr to a x = b a y := by
    intro a n x y i hn ha hx hy hi
    subst hn; subst hx; subst hy
    exact cpB_to ha hi
  intro i hi
  obtain ⟨h1, h2, h3⟩ := h i hi
  obtain ⟨w1, w2, w3⟩ := hw i hi
  refine ⟨?_, ?_, fun k l hl => ?_⟩
  · rw [e 13 4 _ _ i rfl (by decide) rfl rfl hi]; exact h1
  · rw [e 14 4 _ _ i rfl (by decide) rfl rfl hi]; exact h2
  · have hk := at_lt hl
    obtain ⟨g1, g2, g3, g4, g5, g6, g7⟩ := h3 k l hl
    have e15 : ∀ c, c < 8 → cpB b fr to 15 (96 * (4 * to + i) + (8 * k + c)) = b 15 (96 * (4 * fr + i) + (8 * k + c)) := fun c hc => e 15 384 _ _ (96 * i + 8 * k + c) rfl (by decide) (by omega) (by omega) (by omega)
    refine ⟨(e15 0 (by omega)).trans g1, (e15 1 (by omega)).trans g2, (e15 2 (by omega)).trans g3, (e15 3 (by omega)).trans g4, (e15 4 (by omega)).trans g5, (e15 5 (by omega)).trans g6, ?_⟩
    rcases g7 with ⟨g7, g8⟩ | ⟨g7, off, g8, g9, g10⟩
    · exact Or.inl ⟨g7, (e15 6 (by omega)).trans g8⟩
    · refine Or.inr ⟨g7, off, g8, (e15 6 (by omega)).trans g9, fun m x hx => ?_⟩
      have hm := at_lt hx
      obtain ⟨q1, q2⟩ := g10 m x hx
      have hx14 := mcode_lt (w3 l (List.mem_of_getElem? hl)).2.2.2.2.2.2.2.2 x (List.mem_of_getElem? hx)
      refine ⟨?_, ?_⟩
      · have := cpB_16 (b := b) (fr := fr) (to := to) (i := 900 * i + off + m) (by omega)
        rw [show 900 * (4 * to + i) + (off + m) = 3600 * to + (900 * i + off + m) by omega, this, show 3600 * fr + (900 * i + off + m) = 900 * (4 * fr + i) + (off + m) by omega, q1, b_small x.1 hx14]
      · rw [e 17 3600 _ _ (900 * i + off + m) rfl (by decide) (by omega) (show 900 * (4 * fr + i) + (off + m) = _ by omega) (by omega)]
        exact q2
end MIM
