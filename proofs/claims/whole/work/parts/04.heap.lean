/-! the heap of places: reading, writing, making; what RepD keeps -/
theorem adr_hi (g : GG) {k : Nat} (h : 8 ≤ k) : adr g k = g_b g + (k - 8) := by simp [adr, Nat.not_lt.mpr h]
theorem adr_lo (g : GG) {k : Nat} (h : k < 8) : adr g k = g_r g k := by simp [adr, h]
theorem adr_inj (g : GG) {j k : Nat} (hj : 8 ≤ j) (hk : 8 ≤ k) (h : adr g j = adr g k) : j = k := by
  rw [adr_hi g hj, adr_hi g hk] at h; omega
theorem wz_at {g : GG} {A : LH} {k : Nat} (h8 : 8 ≤ k) (hk : k < 8 + hn A) : (wz g A)[k - 8]? = some (adr g k, ce g (gc A k)) := by
  rw [wz, List.getElem?_map, List.getElem?_range (by omega), adr_hi g h8]
  simp [show 8 + (k - 8) = k by omega]
theorem RepD.lt {g : GG} {A : LH} {H : Heap} (hD : RepD g A H) {k : Nat} (h : gc A k ≠ ab_) : k < 8 + hn A :=
  Nat.not_le.mp fun q => h (hD.2.2.2.1 k q)
theorem RepD.at {g : GG} {A : LH} {H : Heap} (hD : RepD g A H) {k : Nat} (h8 : 8 ≤ k) (h : gc A k ≠ ab_) : va_at (g_D g) vcl (adr g k, ce g (gc A k)) H :=
  hD.1 (k - 8) _ (wz_at h8 (hD.lt h))
theorem gc_sc {A : LH} (hl : A.1.length = 62) (k : Nat) (c : LC) (j : Nat) : gc (sc A k c) j = if j = k then c else gc A j := by
  unfold gc sc
  by_cases hk : k < 62
  · rw [if_pos hk]
    by_cases hj : j < 62
    · simp only [hj, if_true]
      by_cases e : j = k
      · subst e; simp [List.getD, List.getElem?_set, hl, hj]
      · simp [List.getD, List.getElem?_set, e, Ne.symm e]
    · have e : j ≠ k := by omega
      simp [hj, e]
  · rw [if_neg hk]
    by_cases hj : j < 62
    · have e : j ≠ k := by omega
      simp [hj, e]
    · simp only [hj, if_false, va_up]
theorem gc_al {A : LH} (hl : A.1.length = 62) (c : LC) (z : Nat) (j : Nat) : gc (al A c z) j = if j = 8 + hn A then c else gc A j := by
  have h := gc_sc hl (8 + hn A) c j
  rw [← h]
  unfold gc sc al
  by_cases hk : 8 + hn A < 62 <;> simp [hk]
theorem hn_sc (A : LH) (k : Nat) (c : LC) : hn (sc A k c) = hn A := by unfold sc hn; split <;> rfl
theorem hz_sc (A : LH) (k : Nat) (c : LC) : hz (sc A k c) = hz A := by unfold sc hz; split <;> rfl
theorem hl_sc (A : LH) (k : Nat) (c : LC) : (sc A k c).1.length = A.1.length := by unfold sc; split <;> simp
theorem hn_al (A : LH) (c : LC) (z : Nat) : hn (al A c z) = hn A + 1 := by unfold al; split <;> rfl
theorem hz_al (A : LH) (c : LC) (z : Nat) : hz (al A c z) = hz A + z := by unfold al; split <;> rfl
theorem hl_al (A : LH) (c : LC) (z : Nat) : (al A c z).1.length = A.1.length := by unfold al; split <;> simp
theorem wz_sc {g : GG} {A : LH} (hl : A.1.length = 62) {k : Nat} {c : LC} (h8 : 8 ≤ k) : wz g (sc A k c) = (wz g A).set (k - 8) (adr g k, ce g c) := by
  apply List.ext_getElem?
  intro i
  simp only [wz, hn_sc, List.getElem?_set, List.getElem?_map, List.length_map, List.length_range]
  by_cases e : k - 8 = i
  · subst e
    by_cases hi : k - 8 < hn A
    · simp [hi, List.getElem?_range, gc_sc hl, show 8 + (k - 8) = k by omega, adr_hi g h8]
    · simp [hi, List.getElem?_eq_none (l := List.range (hn A)) (i := k - 8) (by simp; omega)]
  · rw [if_neg e]
    by_cases hi : i < hn A
    · simp [List.getElem?_range hi, gc_sc hl, show 8 + i ≠ k by omega]
    · simp [List.getElem?_eq_none (l := List.range (hn A)) (i := i) (by simp; omega)]
theorem wz_al {g : GG} {A : LH} (hl : A.1.length = 62) {c : LC} {z : Nat} : wz g (al A c z) = wz g A ++ [(g_b g + hn A, ce g c)] := by
  simp only [wz, hn_al, List.range_succ, List.map_append, List.map_cons, List.map_nil, gc_al hl]
  congr 1
  apply List.map_congr_left
  intro i hi
  have := List.mem_range.mp hi
  rw [if_neg (by omega)]
theorem RepD.put {g : GG} {A : LH} {H H1 : Heap} (hD : RepD g A H) {k : Nat} {c : LC} (h8 : 8 ≤ k) (hne : gc A k ≠ ab_) (hat : va_at (g_D g) vcl (adr g k, ce g c) H1) (z : H1.size = H.size) (oq : ∀ q : Nat, q ≠ adr g k → H1[q]? = H[q]?) : RepD g (sc A k c) H1 := by
  have hk := hD.lt hne
  have hl := hD.2.2.2.2.2
  have hp := wz_at (g := g) h8 hk
  refine ⟨?_, ?_, ?_, ?_, ?_, by rw [hl_sc]; exact hl⟩
  · rw [wz_sc hl h8]; exact hD.1.set hD.2.1 hp hat oq
  · rw [wz_sc hl h8]; exact hD.2.1.set hp
  · rw [z, hn_sc]; exact hD.2.2.1
  · intro j hj
    rw [hn_sc] at hj
    rw [gc_sc hl, if_neg (by omega)]; exact hD.2.2.2.1 j hj
  · intro j hj
    rw [gc_sc hl, if_neg (by omega)]; exact hD.2.2.2.2.1 j hj
theorem RepD.new {g : GG} {A : LH} {H H1 : Heap} (hD : RepD g A H) {c : LC} {w : Nat} (hat : va_at (g_D g) vcl (g_b g + hn A, ce g c) H1) (z : H1.size = H.size + 1) (oq : ∀ q : Nat, q < H.size → H1[q]? = H[q]?) : RepD g (al A c w) H1 := by
  have hl := hD.2.2.2.2.2
  have hk : ∀ (k : Nat) (x : Nat × va_E), (wz g A)[k]? = some x → H1[x.1]? = H[x.1]? := fun k x hx => oq x.1 ((hD.1 k x hx).lt)
  refine ⟨?_, ?_, ?_, ?_, ?_, by rw [hl_al]; exact hl⟩
  · rw [wz_al hl]
    refine (hD.1.kept hk).app (fun k x hx => ?_)
    have hz : k < 1 := (List.getElem?_eq_some_iff.mp hx).1
    rw [show k = 0 by omega] at hx
    cases hx
    exact hat
  · rw [wz_al hl]
    exact hD.2.1.push hD.1 hD.2.2.1.symm (Nat.le_add_right _ _)
  · rw [z, hn_al, hD.2.2.1]; omega
  · intro j hj
    rw [hn_al] at hj
    rw [gc_al hl, if_neg (by omega)]; exact hD.2.2.2.1 j (by omega)
  · intro j hj
    rw [gc_al hl, if_neg (by omega)]; exact hD.2.2.2.2.1 j hj
theorem RepD.S {g : GG} {A : LH} {H H1 : Heap} {H0 : Heap} {locs : List Loc} {k j : Nat} (hS : va_S (aw g) H0 H locs) (h8 : 8 ≤ k) (z : H1.size = H.size) (oq : ∀ q : Nat, q ≠ adr g k → H1[q]? = H[q]?) : va_S (aw g) H0 H1 (locs ++ [⟨adr g k, j⟩]) :=
  hS.put z oq (by show g_b g ≤ _; rw [adr_hi g h8]; exact Nat.le_add_right _ _)
-- reading and writing, by kind
def gF (A : LH) (r : Option Nat) (ci k : Nat) : Option LV := match r with
  | none => none
  | some q => match gc A q with
    | .inr (c, fs) => if c = ci then fs[k]? else none
    | _ => none
def gI (A : LH) (r : Option Nat) (ci k : Nat) : Option Int32 := match gF A r ci k with
  | some (.inl x) => some x
  | _ => none
def gR (A : LH) (r : Option Nat) (ci k : Nat) : Option (Option Nat) := match gF A r ci k with
  | some (.inr (.inl x)) => some x
  | _ => none
def gJ (A : LH) (r : Option Nat) (ci k : Nat) : Option Int64 := match gF A r ci k with
  | some (.inr (.inr x)) => some x
  | _ => none
def pF (A : LH) (r : Option Nat) (ci k : Nat) (v : LV) : Option LH := match r with
  | none => none
  | some q => match gc A q with
    | .inr (c, fs) => if c = ci ∧ k < fs.length ∧ 8 ≤ q then some (sc A q (.inr (ci, fs.set k v))) else none
    | _ => none
def pZ (A : LH) (r : Option Nat) (ci k : Nat) (x : Int32) : Option LH := if x = 0 ∨ x = 1 then pF A r ci k (LI x) else none
def aI (A : LH) (r : Option Nat) (t : Nat) (i : Int32) : Option Int32 := match r with
  | none => none
  | some q => match gc A q with
    | .inl (t', n, .inl f) => if t' = t ∧ ¬ (i < 0 ∨ n ≤ i.toNatClampNeg) then some (f i.toNatClampNeg) else none
    | _ => none
def aR (A : LH) (r : Option Nat) (t : Nat) (i : Int32) : Option (Option Nat) := match r with
  | none => none
  | some q => match gc A q with
    | .inl (t', n, .inr f) => if t' = t ∧ ¬ (i < 0 ∨ n ≤ i.toNatClampNeg) then some (f i.toNatClampNeg) else none
    | _ => none
def sI (A : LH) (r : Option Nat) (t : Nat) (i x : Int32) : Option LH := match r with
  | none => none
  | some q => match gc A q with
    | .inl (t', n, .inl f) => if (t' = t ∧ 8 ≤ q) ∧ ¬ (i < 0 ∨ n ≤ i.toNatClampNeg) then some (sc A q (.inl (t, n, .inl (upd f i.toNatClampNeg x)))) else none
    | _ => none
/-- an element of an array of references: null, or an object of the class ci -/
def sR (A : LH) (r : Option Nat) (t ci : Nat) (i : Int32) (x : Option Nat) : Option LH := match r with
  | none => none
  | some q => match gc A q with
    | .inl (t', n, .inr f) => if (t' = t ∧ 8 ≤ q) ∧ ¬ (i < 0 ∨ n ≤ i.toNatClampNeg) then (match x with
        | none => some (sc A q (.inl (t, n, .inr (va_up f i.toNatClampNeg none))))
        | some v => match gc A v with
          | .inr (c, _) => if c = ci ∧ 8 ≤ v then some (sc A q (.inl (t, n, .inr (va_up f i.toNatClampNeg (some v))))) else none
          | _ => none) else none
    | _ => none
def ln (A : LH) (r : Option Nat) : Option Int32 := match r with
  | none => none
  | some q => match gc A q with
    | .inl (_, n, _) => some (Int32.ofNat n)
    | _ => none
def nI_ (A : LH) (t : Nat) (n : Int32) : Option LH := if ¬ n < 0 ∧ n.toNatClampNeg ≤ 60000000 then some (al A (.inl (t, n.toNatClampNeg, .inl fun _ => 0)) n.toNatClampNeg) else none
def nR_ (A : LH) (t : Nat) (n : Int32) : Option LH := if ¬ n < 0 ∧ n.toNatClampNeg ≤ 60000000 then some (al A (.inl (t, n.toNatClampNeg, .inr fun _ => none)) n.toNatClampNeg) else none
theorem gI_F {A : LH} {r : Option Nat} {ci k : Nat} {x : Int32} (h : gI A r ci k = some x) : gF A r ci k = some (LI x) := by
  unfold gI at h; split at h
  · cases h; assumption
  · cases h
theorem gR_F {A : LH} {r : Option Nat} {ci k : Nat} {x : Option Nat} (h : gR A r ci k = some x) : gF A r ci k = some (LR x) := by
  unfold gR at h; split at h
  · cases h; assumption
  · cases h
theorem gJ_F {A : LH} {r : Option Nat} {ci k : Nat} {x : Int64} (h : gJ A r ci k = some x) : gF A r ci k = some (LJ x) := by
  unfold gJ at h; split at h
  · cases h; assumption
  · cases h
theorem gF_sp {A : LH} {r : Option Nat} {ci k : Nat} {v : LV} (h : gF A r ci k = some v) : ∃ q fs, r = some q ∧ gc A q = .inr (ci, fs) ∧ fs[k]? = some v := by
  unfold gF at h
  split at h
  · cases h
  · split at h
    · split at h
      · rename_i q _ c fs e hc
        subst hc; exact ⟨q, fs, rfl, e, h⟩
      · cases h
    · cases h
theorem pF_sp {A B : LH} {r : Option Nat} {ci k : Nat} {v : LV} (h : pF A r ci k v = some B) : ∃ q fs, r = some q ∧ gc A q = .inr (ci, fs) ∧ k < fs.length ∧ 8 ≤ q ∧ B = sc A q (.inr (ci, fs.set k v)) := by
  unfold pF at h
  split at h
  · cases h
  · split at h
    · split at h
      · rename_i q _ c fs e hc
        obtain ⟨h1, h2, h3⟩ := hc
        subst h1; cases h; exact ⟨q, fs, rfl, e, h2, h3, rfl⟩
      · cases h
    · cases h
theorem aI_sp {A : LH} {r : Option Nat} {t : Nat} {i x : Int32} (h : aI A r t i = some x) : ∃ q n f, r = some q ∧ gc A q = .inl (t, n, .inl f) ∧ vp_in i n ∧ x = f i.toNatClampNeg := by
  unfold aI at h
  split at h
  · cases h
  · split at h
    · split at h
      · rename_i q _ t' n f e hc
        obtain ⟨h1, h2⟩ := hc
        subst h1; cases h; exact ⟨q, n, f, rfl, e, h2, rfl⟩
      · cases h
    · cases h
theorem aR_sp {A : LH} {r x : Option Nat} {t : Nat} {i : Int32} (h : aR A r t i = some x) : ∃ q n f, r = some q ∧ gc A q = .inl (t, n, .inr f) ∧ vp_in i n ∧ x = f i.toNatClampNeg := by
  unfold aR at h
  split at h
  · cases h
  · split at h
    · split at h
      · rename_i q _ t' n f e hc
        obtain ⟨h1, h2⟩ := hc
        subst h1; cases h; exact ⟨q, n, f, rfl, e, h2, rfl⟩
      · cases h
    · cases h
theorem sI_sp {A B : LH} {r : Option Nat} {t : Nat} {i x : Int32} (h : sI A r t i x = some B) : ∃ q n f, r = some q ∧ gc A q = .inl (t, n, .inl f) ∧ 8 ≤ q ∧ vp_in i n ∧ B = sc A q (.inl (t, n, .inl (upd f i.toNatClampNeg x))) := by
  unfold sI at h
  split at h
  · cases h
  · split at h
    · split at h
      · rename_i q _ t' n f e hc
        obtain ⟨⟨h1, h3⟩, h2⟩ := hc
        subst h1; cases h; exact ⟨q, n, f, rfl, e, h3, h2, rfl⟩
      · cases h
    · cases h
theorem sR_sp {A B : LH} {r x : Option Nat} {t ci : Nat} {i : Int32} (h : sR A r t ci i x = some B) : ∃ q n f, r = some q ∧ gc A q = .inl (t, n, .inr f) ∧ 8 ≤ q ∧ vp_in i n ∧ B = sc A q (.inl (t, n, .inr (va_up f i.toNatClampNeg x))) ∧ ∀ v, x = some v → 8 ≤ v ∧ ∃ fs, gc A v = .inr (ci, fs) := by
  unfold sR at h
  split at h
  · cases h
  · split at h
    · split at h
      · rename_i q _ t' n f e hc
        obtain ⟨⟨h1, h3⟩, h2⟩ := hc
        subst h1
        split at h
        · cases h; exact ⟨q, n, f, rfl, e, h3, h2, rfl, fun v hv => by cases hv⟩
        · split at h
          · split at h
            · rename_i v _ c fs ev hc
              obtain ⟨g1, g2⟩ := hc
              subst g1
              cases h; exact ⟨q, n, f, rfl, e, h3, h2, rfl, fun w hw => by cases hw; exact ⟨g2, fs, ev⟩⟩
            · cases h
          · cases h
      · cases h
    · cases h
theorem ln_sp {A : LH} {r : Option Nat} {x : Int32} (h : ln A r = some x) : ∃ q t n f, r = some q ∧ gc A q = .inl (t, n, f) ∧ x = Int32.ofNat n := by
  unfold ln at h
  split at h
  · cases h
  · split at h
    · rename_i q _ t n f e
      cases h; exact ⟨q, t, n, f, rfl, e, rfl⟩
    · cases h
