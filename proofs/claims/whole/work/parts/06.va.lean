/-! V: arrays, new cells, locals, statics, ends -/
theorem RepD.arrI {g : GG} {A : LH} {H : Heap} (hD : RepD g A H) {q t n : Nat} {f : Nat → Int32} (h : gc A q = .inl (t, n, .inl f)) (h8 : 8 ≤ q) : va_at (g_D g) vcl (adr g q, .inl (g_A g t, n, .inl f)) H := by
  have h1 := hD.at h8 (by rw [h]; exact ne_ab2)
  rw [h] at h1
  exact h1
theorem RepD.arrR {g : GG} {A : LH} {H : Heap} (hD : RepD g A H) {q t n : Nat} {f : Nat → Option Nat} (h : gc A q = .inl (t, n, .inr f)) (h8 : 8 ≤ q) : va_at (g_D g) vcl (adr g q, .inl (g_A g t, n, .inr (.inr (.inr (.inr (fun j => (f j).map (adr g))))))) H := by
  have h1 := hD.at h8 (by rw [h]; exact ne_ab2)
  rw [h] at h1
  exact h1
/-- an array that is only read: an int array of the script or of the tables -/
theorem RepD.ro {g : GG} {A : LH} {H H0 : Heap} {s : State} {locs : List Loc} (hD : RepD g A H) (hs : RepS g s s.heap) (hb : g_b g ≤ s.heap.size) (hS : va_S (aw g) s.heap H locs) {q t n : Nat} {z : (Nat → Int32) ⊕ (Nat → Option Nat)} (h : gc A q = .inl (t, n, z)) (h8 : q < 8) : t = 0 ∧ ∃ f, z = .inl f ∧ ((va_X (adr g q) n f s s.heap ∧ adr g q < s.heap.size ∧ ¬ aw g (adr g q)) ∨ va_T .int (adr g q) n (fun j => .int (f j)) (aw g) s s.heap) := by
  have h1 := (hD.2.2.2.2.1 q h8).symm.trans h
  rw [adr_lo g h8]
  unfold roc at h1
  by_cases e0 : q = 0
  · subst e0
    rw [if_pos rfl] at h1
    cases h1
    have := hs.2.2.1
    exact ⟨rfl, _, rfl, Or.inl ⟨this.1, Nat.lt_of_lt_of_le this.2 hb, Nat.not_le.mpr this.2⟩⟩
  · rw [if_neg e0] at h1
    by_cases e1 : q = 1
    · subst e1
      rw [if_pos rfl] at h1
      cases h1
      exact ⟨rfl, _, rfl, Or.inr hs.2.2.2.1⟩
    · rw [if_neg e1] at h1
      by_cases e2 : q = 2
      · subst e2
        rw [if_pos rfl] at h1
        cases h1
        exact ⟨rfl, _, rfl, Or.inr hs.2.2.2.2.1⟩
      · rw [if_neg e2] at h1
        cases h1
section VA
variable {g : GG} {y : MM} {d n0 z0 : Nat} {rr : Option LV} {A' A B : LH} {pc : Nat} {ls : List (Option LV)} {st : List LV}
theorem V.iald {r : Option Nat} {i v : Int32} (h : aI A r 0 i = some v) (hd : decode (mC y) pc = .ok (.iaload, 1)) (kk : V g y d n0 z0 rr A' A (pc + 1) ls (LI v :: st)) : V g y d n0 z0 rr A' A pc ls (LI i :: LR r :: st) := by
  obtain ⟨q, n, f, rfl, hq, hin, rfl⟩ := aI_sp h
  refine ⟨kk.1, fun a b p e R s m args below meth c Q H locs lc X hR hD hS hL => ?_⟩
  have k2 := kk.2 a b p e R s m args below meth c Q H locs lc X hR hD hS hL
  by_cases h8 : 8 ≤ q
  · exact va_iald (ws := [(adr g q, .inl (g_A g 0, n, .inl f))]) X.1 X.2.1 X.2.2.2.2.2.2.1.1 (va_P1 (hD.arrI hq h8)) 0 0 rfl rfl hin hd k2
  · obtain ⟨-, f', e1, ⟨e2, e3, e4⟩ | e2⟩ := hD.ro (H0 := H) X.2.2.2.2.2.2.1 X.2.2.2.2.2.2.2.1 hS hq (Nat.not_le.mp h8)
    · cases e1
      exact va_sld X.1 X.2.1 e2 e3 e4 hS hin hd k2
    · cases e1
      exact va_ti X.1 X.2.1 e2 hS hin rfl hd k2
theorem V.bald {r : Option Nat} {i v : Int32} (h : aI A r 1 i = some v) (hd : decode (mC y) pc = .ok (.baload, 1)) (kk : V g y d n0 z0 rr A' A (pc + 1) ls (LI v :: st)) : V g y d n0 z0 rr A' A pc ls (LI i :: LR r :: st) := by
  obtain ⟨q, n, f, rfl, hq, hin, rfl⟩ := aI_sp h
  refine ⟨kk.1, fun a b p e R s m args below meth c Q H locs lc X hR hD hS hL => ?_⟩
  have k2 := kk.2 a b p e R s m args below meth c Q H locs lc X hR hD hS hL
  by_cases h8 : 8 ≤ q
  · exact va_bald (ws := [(adr g q, .inl (g_A g 1, n, .inl f))]) X.1 X.2.1 X.2.2.2.2.2.2.1.1 (va_P1 (hD.arrI hq h8)) 0 1 rfl rfl hin hd k2
  · obtain ⟨e0, -⟩ := hD.ro (H0 := H) X.2.2.2.2.2.2.1 X.2.2.2.2.2.2.2.1 hS hq (Nat.not_le.mp h8)
    cases e0
theorem V.zald {r : Option Nat} {i v : Int32} (h : aI A r 2 i = some v) (hd : decode (mC y) pc = .ok (.baload, 1)) (kk : V g y d n0 z0 rr A' A (pc + 1) ls (LI v :: st)) : V g y d n0 z0 rr A' A pc ls (LI i :: LR r :: st) := by
  obtain ⟨q, n, f, rfl, hq, hin, rfl⟩ := aI_sp h
  refine ⟨kk.1, fun a b p e R s m args below meth c Q H locs lc X hR hD hS hL => ?_⟩
  have k2 := kk.2 a b p e R s m args below meth c Q H locs lc X hR hD hS hL
  by_cases h8 : 8 ≤ q
  · exact va_zald (ws := [(adr g q, .inl (g_A g 2, n, .inl f))]) X.1 X.2.1 X.2.2.2.2.2.2.1.1 (va_P1 (hD.arrI hq h8)) 0 2 rfl rfl hin hd k2
  · obtain ⟨e0, -⟩ := hD.ro (H0 := H) X.2.2.2.2.2.2.1 X.2.2.2.2.2.2.2.1 hS hq (Nat.not_le.mp h8)
    cases e0
theorem cv_R (g : GG) (r : Option Nat) : cv g (LR r) = va_rf (r.map (adr g)) := by cases r <;> rfl
theorem V.aald {r v : Option Nat} {i : Int32} {t : Nat} {C : String} (h : aR A r t i = some v) (ht : (tyz g)[t]? = some (g_A g t, .object C)) (hd : decode (mC y) pc = .ok (.aaload, 1)) (kk : V g y d n0 z0 rr A' A (pc + 1) ls (LR v :: st)) : V g y d n0 z0 rr A' A pc ls (LI i :: LR r :: st) := by
  obtain ⟨q, n, f, rfl, hq, hin, rfl⟩ := aR_sp h
  refine ⟨kk.1, fun a b p e R s m args below meth c Q H locs lc X hR hD hS hL => ?_⟩
  have k2 := kk.2 a b p e R s m args below meth c Q H locs lc X hR hD hS hL
  by_cases h8 : 8 ≤ q
  · rw [List.map_cons, cv_R] at k2
    exact va_aldq (ws := [(adr g q, .inl (g_A g t, n, .inr (.inr (.inr (.inr (fun j => (f j).map (adr g)))))))]) X.1 X.2.1 X.2.2.2.2.2.2.1.1 (va_P1 (hD.arrR hq h8)) 0 t rfl ht hin hd k2
  · obtain ⟨-, f', e1, -⟩ := hD.ro (H0 := H) X.2.2.2.2.2.2.1 X.2.2.2.2.2.2.2.1 hS hq (Nat.not_le.mp h8)
    cases e1
theorem V.alen {r : Option Nat} {v : Int32} (h : ln A r = some v) (ht : ∀ q t n f, r = some q → gc A q = .inl (t, n, f) → t < 6) (hd : decode (mC y) pc = .ok (.arraylength, 1)) (kk : V g y d n0 z0 rr A' A (pc + 1) ls (LI v :: st)) : V g y d n0 z0 rr A' A pc ls (LR r :: st) := by
  obtain ⟨q, t, n, f, rfl, hq, rfl⟩ := ln_sp h
  refine ⟨kk.1, fun a b p e R s m args below meth c Q H locs lc X hR hD hS hL => ?_⟩
  have k2 := kk.2 a b p e R s m args below meth c Q H locs lc X hR hD hS hL
  have ht6 := ht q t n f rfl hq
  by_cases h8 : 8 ≤ q
  · obtain ⟨ty, hty⟩ : ∃ ty, (tyz g)[t]? = some (g_A g t, ty) := by
      rcases (show t = 0 ∨ t = 1 ∨ t = 2 ∨ t = 3 ∨ t = 4 ∨ t = 5 by omega) with rfl | rfl | rfl | rfl | rfl | rfl <;> exact ⟨_, rfl⟩
    have hat := hD.at h8 (by rw [hq]; exact ne_ab2)
    rw [hq] at hat
    cases f with
    | inl f => exact va_alen (x := (n, .inl f)) (ws := [(adr g q, .inl (g_A g t, n, .inl f))]) X.1 X.2.1 X.2.2.2.2.2.2.1.1 (va_P1 hat) 0 t rfl hty rfl hd k2
    | inr f => exact va_alen (x := (n, .inr (.inr (.inr (.inr (fun j => (f j).map (adr g))))))) (ws := [(adr g q, .inl (g_A g t, n, .inr (.inr (.inr (.inr (fun j => (f j).map (adr g)))))))]) X.1 X.2.1 X.2.2.2.2.2.2.1.1 (va_P1 hat) 0 t rfl hty rfl hd k2
  · obtain ⟨-, f', e1, ⟨e2, e3, e4⟩ | e2⟩ := hD.ro (H0 := H) X.2.2.2.2.2.2.1 X.2.2.2.2.2.2.2.1 hS hq (Nat.not_le.mp h8)
    · cases e1
      exact va_slen X.1 X.2.1 e2 e3 e4 hS hd k2
    · cases e1
      exact va_tlen X.1 X.2.1 e2 hS rfl hd k2
theorem V.iast {r : Option Nat} {i x : Int32} (h : sI A r 0 i x = some B) (hd : decode (mC y) pc = .ok (.iastore, 1)) (kk : V g y d n0 z0 rr A' B (pc + 1) ls st) : V g y d n0 z0 rr A' A pc ls (LI x :: LI i :: LR r :: st) := by
  obtain ⟨q, n, f, rfl, hq, h8, hin, rfl⟩ := sI_sp h
  refine ⟨by have := kk.1; rwa [hn_sc, hz_sc] at this, fun a b p e R s m args below meth c Q H locs lc X hR hD hS hL => ?_⟩
  have hat := hD.arrI hq h8
  refine W.iast X.1 X.2.1 hat ((X.2.2.2.2.2.2.1.1.2 0 _ rfl).1 n (fun j => .int (f j))) (fun q => by cases q) (by show ¬ (i < 0 ∨ (arrV _ _ _).slots.size ≤ _); rw [arrV_size]; exact hin) rfl rfl hd fun H1 e1 z oq => ?_
  have hat1 : va_at (g_D g) vcl (adr g q, ce g (.inl (0, n, .inl (upd f i.toNatClampNeg x)))) H1 := by
    show H1[adr g q]? = some (vp_cell _ _)
    rw [e1, vp_cell_i, vp_cell_i, arrV_store]
    congr 2
    funext q
    by_cases hq : q = i.toNatClampNeg
    · subst hq; simp [updV, upd]
    · simp [updV, upd, hq]
  have := kk.2 (by rw [hn_sc]; exact a) (by rw [hz_sc]; exact b) p e R s m args below meth c Q H1 _ lc X hR (hD.put h8 (by rw [hq]; exact ne_ab2) hat1 z oq) (RepD.S (A := A) (j := i.toNatClampNeg) hS h8 z oq) hL
  rwa [hn_sc, hz_sc] at this
theorem V.bast {r : Option Nat} {i x : Int32} (h : sI A r 1 i x.toInt8.toInt32 = some B) (hd : decode (mC y) pc = .ok (.bastore, 1)) (kk : V g y d n0 z0 rr A' B (pc + 1) ls st) : V g y d n0 z0 rr A' A pc ls (LI x :: LI i :: LR r :: st) := by
  obtain ⟨q, n, f, rfl, hq, h8, hin, rfl⟩ := sI_sp h
  refine ⟨by have := kk.1; rwa [hn_sc, hz_sc] at this, fun a b p e R s m args below meth c Q H locs lc X hR hD hS hL => ?_⟩
  have hat := hD.arrI hq h8
  refine W.bast X.1 X.2.1 hat ((X.2.2.2.2.2.2.1.1.2 1 _ rfl).1 n (fun j => .int (f j))) (fun q => by cases q) (by show ¬ (i < 0 ∨ (arrV _ _ _).slots.size ≤ _); rw [arrV_size]; exact hin) rfl rfl hd fun H1 e1 z oq => ?_
  have hat1 : va_at (g_D g) vcl (adr g q, ce g (.inl (1, n, .inl (upd f i.toNatClampNeg x.toInt8.toInt32)))) H1 := by
    show H1[adr g q]? = some (vp_cell _ _)
    rw [e1, vp_cell_i, vp_cell_i, arrV_store]
    congr 2
    funext q
    by_cases hq : q = i.toNatClampNeg
    · subst hq; simp [updV, upd]; rfl
    · simp [updV, upd, hq]
  have := kk.2 (by rw [hn_sc]; exact a) (by rw [hz_sc]; exact b) p e R s m args below meth c Q H1 _ lc X hR (hD.put h8 (by rw [hq]; exact ne_ab2) hat1 z oq) (RepD.S (A := A) (j := i.toNatClampNeg) hS h8 z oq) hL
  rwa [hn_sc, hz_sc] at this
theorem V.zast {r : Option Nat} {i x : Int32} (h : sI A r 2 i (vp_nar .boolean x) = some B) (hd : decode (mC y) pc = .ok (.bastore, 1)) (kk : V g y d n0 z0 rr A' B (pc + 1) ls st) : V g y d n0 z0 rr A' A pc ls (LI x :: LI i :: LR r :: st) := by
  obtain ⟨q, n, f, rfl, hq, h8, hin, rfl⟩ := sI_sp h
  refine ⟨by have := kk.1; rwa [hn_sc, hz_sc] at this, fun a b p e R s m args below meth c Q H locs lc X hR hD hS hL => ?_⟩
  have hat := hD.arrI hq h8
  refine W.zast X.1 X.2.1 hat ((X.2.2.2.2.2.2.1.1.2 2 _ rfl).1 n (fun j => .int (f j))) (fun q => by cases q) (by show ¬ (i < 0 ∨ (arrV _ _ _).slots.size ≤ _); rw [arrV_size]; exact hin) rfl rfl hd fun H1 e1 z oq => ?_
  have hat1 : va_at (g_D g) vcl (adr g q, ce g (.inl (2, n, .inl (upd f i.toNatClampNeg (vp_nar .boolean x))))) H1 := by
    show H1[adr g q]? = some (vp_cell _ _)
    rw [e1, vp_cell_i, vp_cell_i, arrV_store]
    congr 2
    funext q
    by_cases hq : q = i.toNatClampNeg
    · subst hq
      simp [updV, upd, vp_nar]
      try rfl
    · simp [updV, upd, hq]
  have := kk.2 (by rw [hn_sc]; exact a) (by rw [hz_sc]; exact b) p e R s m args below meth c Q H1 _ lc X hR (hD.put h8 (by rw [hq]; exact ne_ab2) hat1 z oq) (RepD.S (A := A) (j := i.toNatClampNeg) hS h8 z oq) hL
  rwa [hn_sc, hz_sc] at this
theorem V.aast {r x : Option Nat} {i : Int32} {t ci N : Nat} {C : String} {T : u_T} (h : sR A r t ci i x = some B) (ht : (tyz g)[t]? = some (g_A g t, .object C)) (hci : vcl[ci]? = some (C, T, N)) (hd : decode (mC y) pc = .ok (.aastore, 1)) (kk : V g y d n0 z0 rr A' B (pc + 1) ls st) : V g y d n0 z0 rr A' A pc ls (LR x :: LI i :: LR r :: st) := by
  obtain ⟨q, n, f, rfl, hq, h8, hin, rfl, hv⟩ := sR_sp h
  refine ⟨by have := kk.1; rwa [hn_sc, hz_sc] at this, fun a b p e R s m args below meth c Q H locs lc X hR hD hS hL => ?_⟩
  have hat := hD.arrR hq h8
  have hK := X.2.2.2.2.2.2.1.1
  have fin : ∀ (H1 : Heap), H1[adr g q]? = some ((vp_cell (g_A g t) (n, .inr (.inr (.inr (.inr (fun j => (f j).map (adr g))))))).setSlot i.toNatClampNeg (cv g (LR x))) → H1.size = H.size → (∀ q', q' ≠ adr g q → H1[q']? = H[q']?) → W p (g_l g) e R s m args below meth c H1 (locs ++ [⟨adr g q, i.toNatClampNeg⟩]) (hn A - n0) (hz A - z0) Q (F0 m (pc + 1) lc (st.map (cv g))) := by
    intro H1 e1 z oq
    have hat1 : va_at (g_D g) vcl (adr g q, ce g (.inl (t, n, .inr (va_up f i.toNatClampNeg x)))) H1 := by
      show H1[adr g q]? = some (vp_cell _ _)
      rw [e1, vp_cell_q, vp_cell_q, arrV_store]
      congr 2
      funext q
      by_cases hq : q = i.toNatClampNeg
      · subst hq; simp [updV, va_up, cv_R]
      · simp [updV, va_up, hq]
    have := kk.2 (by rw [hn_sc]; exact a) (by rw [hz_sc]; exact b) p e R s m args below meth c Q H1 _ lc X hR (hD.put h8 (by rw [hq]; exact ne_ab2) hat1 z oq) (RepD.S (A := A) (j := i.toNatClampNeg) hS h8 z oq) hL
    rwa [hn_sc, hz_sc] at this
  cases x with
  | none => exact va_WaastN (C := C) X.1 X.2.1 hat ((hK.2 t _ ht).1 n (fun j => va_rf ((f j).map (adr g)))) (fun h => by cases h) (by show ¬ (i < 0 ∨ (arrV _ _ _).slots.size ≤ _); rw [arrV_size]; exact hin) rfl rfl hd fin
  | some v =>
    obtain ⟨v8, fs, hvc⟩ := hv v rfl
    have hlt : i.toNatClampNeg < n := Nat.not_le.mp fun q => hin (Or.inr q)
    have h0 : ¬ i < 0 := fun q => hin (Or.inl q)
    have hci12 : ci < 12 := (List.getElem?_eq_some_iff.mp hci).1
    obtain ⟨r', hr', cellV, g1, g2, g3, -⟩ := hD.obj hvc hci12
    have hcls := (hK.1 ci _ hci).2
    obtain ⟨kA, comp, k1, k2, k3, -⟩ := (hK.2 t _ ht).2
    have hcomp : comp = (g_D g).1 ci := Option.some.inj (k3.symm.trans hcls.1)
    subst hcomp
    obtain ⟨kC, hkC, hkd⟩ := hcls.2
    exact W.aast X.1 X.2.1 hat (fun q h => by cases h) (fun h => by cases h) k1 k2 rfl hkC ⟨h0, by show _ < (arrV _ _ _).slots.size; rw [arrV_size]; exact hlt⟩ g1 (fun q h => by rw [g3] at h; cases h) (by rw [g2]; exact hkC) (by rw [g2]; exact va_assign hcls) rfl rfl hd fin
end VA
