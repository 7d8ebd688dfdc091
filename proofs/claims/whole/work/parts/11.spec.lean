/-! rules for what is not walked: Math.max, Math.min, System.arraycopy; and for the constant text -/
def mmx (x y : Int32) : Int32 := if x < y then y else x
def mmn (x y : Int32) : Int32 := if y < x then y else x
def cpI (A : LH) (r0 : Option Nat) (sp : Int32) (r1 : Option Nat) (dp n : Int32) : Option LH := match r0, r1 with
  | some q0, some q1 => match gc A q0, gc A q1 with
    | .inl (t0, n0, .inl f), .inl (t1, n1, .inl g) => if (t0 = 0 ∧ t1 = 0 ∧ 8 ≤ q0 ∧ 8 ≤ q1) ∧ ¬ sp < 0 ∧ ¬ dp < 0 ∧ ¬ n < 0 ∧ sp.toNatClampNeg + n.toNatClampNeg ≤ n0 ∧ dp.toNatClampNeg + n.toNatClampNeg ≤ n1 then some (sc A q1 (.inl (0, n1, .inl (va_cpy f g sp.toNatClampNeg dp.toNatClampNeg n.toNatClampNeg)))) else none
    | _, _ => none
  | _, _ => none
theorem cpI_sp {A B : LH} {r0 r1 : Option Nat} {sp dp n : Int32} (h : cpI A r0 sp r1 dp n = some B) : ∃ q0 q1 n0 n1 f g, r0 = some q0 ∧ r1 = some q1 ∧ gc A q0 = .inl (0, n0, .inl f) ∧ gc A q1 = .inl (0, n1, .inl g) ∧ 8 ≤ q0 ∧ 8 ≤ q1 ∧ ¬ sp < 0 ∧ ¬ dp < 0 ∧ ¬ n < 0 ∧ sp.toNatClampNeg + n.toNatClampNeg ≤ n0 ∧ dp.toNatClampNeg + n.toNatClampNeg ≤ n1 ∧ B = sc A q1 (.inl (0, n1, .inl (va_cpy f g sp.toNatClampNeg dp.toNatClampNeg n.toNatClampNeg))) := by
  unfold cpI at h
  split at h
  · split at h
    · rename_i q0 q1 _ _ t0 n0 f t1 n1 g e0 e1
      obtain ⟨⟨⟨h1, h2, h3, h4⟩, h5, h6, h7, h8, h9⟩, h10⟩ := ifN h
      subst h1; subst h2; cases h10
      exact ⟨q0, q1, n0, n1, f, g, rfl, rfl, e0, e1, h3, h4, h5, h6, h7, h8, h9, rfl⟩
    · cases h
  · cases h
section VM
variable {g : GG} {y : MM} {d n0 z0 i : Nat} {rr : Option LV} {A' A B : LH} {pc : Nat} {ls : List (Option LV)} {st : List LV}
theorem V.mmx {a b : Int32} (hl : Cond.methodLink (mN y).cls i Lib.Math.max.name ∈ lw_tbl) (hdd : 1 ≤ d) (h8 : lsz st ≤ 8) (hd : decode (mC y) pc = .ok (.invokestatic i, 3)) (kk : V g y d n0 z0 rr A' A (pc + 3) ls (LI (mmx a b) :: st)) : V g y d n0 z0 rr A' A pc ls (LI b :: LI a :: st) := by
  refine ⟨kk.1, fun a b p e R s m argsC below meth c Q H locs lc X hR hD hS hL => ?_⟩
  obtain ⟨x1, x2, x3, x4, x5, x6, x7, x8, x9, x10, x11, x12⟩ := id X
  have k1 := kk.1
  exact va_mmax x1 x2 (x3.trans hL.1.symm) x4 (x6 _ hl rfl) (x6 _ sm_max rfl) (x6 _ ii_math rfl) (x6 _ co_max rfl) (by omega) (by rw [stw]; omega) (by omega) (by omega) hd (kk.2 a b p e R s m argsC below meth c Q H locs lc X hR hD hS hL)
theorem V.mmn {a b : Int32} (hl : Cond.methodLink (mN y).cls i Lib.Math.min.name ∈ lw_tbl) (hdd : 1 ≤ d) (h8 : lsz st ≤ 8) (hd : decode (mC y) pc = .ok (.invokestatic i, 3)) (kk : V g y d n0 z0 rr A' A (pc + 3) ls (LI (mmn a b) :: st)) : V g y d n0 z0 rr A' A pc ls (LI b :: LI a :: st) := by
  refine ⟨kk.1, fun a b p e R s m argsC below meth c Q H locs lc X hR hD hS hL => ?_⟩
  obtain ⟨x1, x2, x3, x4, x5, x6, x7, x8, x9, x10, x11, x12⟩ := id X
  have k1 := kk.1
  exact va_mmin x1 x2 (x3.trans hL.1.symm) x4 (x6 _ hl rfl) (x6 _ sm_min rfl) (x6 _ ii_math rfl) (x6 _ co_min rfl) (by omega) (by rw [stw]; omega) (by omega) (by omega) hd (kk.2 a b p e R s m argsC below meth c Q H locs lc X hR hD hS hL)
theorem V.copy {r0 r1 : Option Nat} {sp dp n : Int32} (h : cpI A r0 sp r1 dp n = some B) (hl : Cond.methodLink (mN y).cls i arraycopyName ∈ lw_tbl) (hdd : 1 ≤ d) (h8 : lsz st ≤ 8) (hd : decode (mC y) pc = .ok (.invokestatic i, 3)) (kk : V g y d n0 z0 rr A' B (pc + 3) ls st) : V g y d n0 z0 rr A' A pc ls (LI n :: LI dp :: LR r1 :: LI sp :: LR r0 :: st) := by
  obtain ⟨q0, q1, m0, m1, f, f1, rfl, rfl, e0, e1, g0, g1, h1, h2, h3, h4, h5, rfl⟩ := cpI_sp h
  refine ⟨by have := kk.1; rwa [hn_sc, hz_sc] at this, fun a b p e R s m argsC below meth c Q H locs lc X hR hD hS hL => ?_⟩
  obtain ⟨x1, x2, x3, x4, x5, x6, x7, x8, x9, x10, x11, x12⟩ := id X
  have hc0 : H[adr g q0]? = some (vp_cell (g_A g 0) (m0, .inl f)) := hD.arrI e0 g0
  have hc1 : H[adr g q1]? = some (vp_cell (g_A g 0) (m1, .inl f1)) := hD.arrI e1 g1
  have nn : ∀ z : Int32, ¬ z < 0 → z.toInt = (z.toNatClampNeg : Int) := by
    intro z hz
    have hz0 : (0 : Int) ≤ z.toInt := by
      have := Int32.not_lt.mp hz
      simpa using Int32.le_iff_toInt_le.mp this
    show z.toInt = ((z.toInt.toNat : Nat) : Int)
    omega
  have hnf : nativeFrameWords "java/lang/System" "arraycopy" 5 ≤ 16 := by decide +kernel
  intro T hT XS
  obtain ⟨-, k0, hk0, cm0, hkk0⟩ := (x7.1.2 0 _ rfl).1 m0 (fun j => .int (f j))
  obtain ⟨-, k1, hk1, cm1, hkk1⟩ := (x7.1.2 0 _ rfl).1 m1 (fun j => .int (f1 j))
  obtain ⟨vm', X', step⟩ := XS.arraycopy x1 x4 (x6 _ hl rfl) (x6 _ na_cp rfl) (x6 _ sm_cp rfl) (x6 _ ii_sys rfl) (src := adr g q0) (dst := adr g q1) (cs := vp_cell (g_A g 0) (m0, .inl f)) (cd := vp_cell (g_A g 0) (m1, .inl f1)) (srcPos := sp) (destPos := dp) (n := n) (by rw [hT]; exact hc0) (by rw [hT]; exact hc1)
    (fun _ h => by cases h) (fun _ h => by cases h) (fun h => by cases h) (fun h => by cases h) hk0 hk1 hkk0 hkk1 (by rfl) h1 h2 h3
    (by rw [nn sp h1, nn n h3]; show ¬ _ > ((arrV _ m0 (fun j => .int (f j))).slots.size : Int); rw [arrV_size]; omega)
    (by rw [nn dp h2, nn n h3]; show ¬ _ > ((arrV _ m1 (fun j => .int (f1 j))).slots.size : Int); rw [arrV_size]; omega)
    (fun vm₁ _ i hi => by
      have e : (vp_cell (g_A g 0) (m0, .inl f)).slots.getD (sp.toNatClampNeg + i) .null = .int (f (sp.toNatClampNeg + i)) := by
        show (arrV _ m0 (fun j => .int (f j))).slots.getD _ _ = _
        rw [Array.getD_eq_getD_getElem?, arrV_read _ _ (by omega)]
        rfl
      refine ⟨?_, ?_⟩
      · rw [e]; rfl
      · rw [e]; exact trivial)
    (g := F0 m pc lc ((LI n :: LI dp :: LR (some q1) :: LI sp :: LR (some q0) :: st).map (cv g))) rfl (by rw [x3]; exact hL.1) (rest := st.map (cv g)) rfl (by rw [x2]; exact hd) (by omega) (by show 2 * 0 + _ + (nativeFrameWords "java/lang/System" "arraycopy" 5 + 11) ≤ _; rw [stw]; omega)
  have ec : copied (vp_cell (g_A g 0) (m0, .inl f)) (vp_cell (g_A g 0) (m1, .inl f1)) sp dp n = vp_cell (g_A g 0) (m1, .inl (va_cpy f f1 sp.toNatClampNeg dp.toNatClampNeg n.toNatClampNeg)) := va_copied (fun z => .int z) _ _ f f1 h4
  rw [ec] at X' step
  have hlt : adr g q1 < H.size := (Array.getElem?_eq_some_iff.mp hc1).1
  have hheap : ((T.setVm vm').setCell (adr g q1) (vp_cell (g_A g 0) (m1, .inl (va_cpy f f1 sp.toNatClampNeg dp.toNatClampNeg n.toNatClampNeg)))).heap = H.setIfInBounds (adr g q1) (vp_cell (g_A g 0) (m1, .inl (va_cpy f f1 sp.toNatClampNeg dp.toNatClampNeg n.toNatClampNeg))) := by rw [← hT]; rfl
  have oq : ∀ q : Nat, q ≠ adr g q1 → (H.setIfInBounds (adr g q1) (vp_cell (g_A g 0) (m1, .inl (va_cpy f f1 sp.toNatClampNeg dp.toNatClampNeg n.toNatClampNeg))))[q]? = H[q]? := fun q hq => by simp [Array.getElem?_setIfInBounds, Ne.symm hq]
  have hat1 : va_at (g_D g) vcl (adr g q1, ce g (.inl (0, m1, .inl (va_cpy f f1 sp.toNatClampNeg dp.toNatClampNeg n.toNatClampNeg)))) (H.setIfInBounds (adr g q1) (vp_cell (g_A g 0) (m1, .inl (va_cpy f f1 sp.toNatClampNeg dp.toNatClampNeg n.toNatClampNeg)))) := by
    show (H.setIfInBounds (adr g q1) _)[adr g q1]? = some _
    simp [Array.getElem?_setIfInBounds, hlt]
  have hAw : aw g (adr g q1) := by show g_b g ≤ _; rw [adr_hi g g1]; exact Nat.le_add_right _ _
  have := kk.2 (by rw [hn_sc]; exact a) (by rw [hz_sc]; exact b) p e R s m argsC below meth c Q _ (locs ++ List.map (fun q => { base := adr g q1, slot := dp.toNatClampNeg + q.snd }) ((vp_cell (g_A g 0) (m0, Sum.inl f)).stretch sp.toNatClampNeg n.toNatClampNeg).zipIdx) lc X hR (hD.put g1 (by rw [e1]; exact ne_ab2) hat1 (by simp) oq) ⟨by simp; exact hS.1, fun q z1 z2 => by
      rw [oq q (fun e => z2 (by rw [e]; exact hAw))]
      exact hS.2.1 q z1 z2, fun q hq => by
      rcases List.mem_append.mp hq with h | h
      · exact hS.2.2 q h
      · obtain ⟨z, -, hz⟩ := List.mem_map.mp h
        rw [← hz]
        exact hAw⟩ hL
  rw [hn_sc, hz_sc] at this
  obtain ⟨t, a1, b1⟩ := this _ hheap X'
  exact ⟨t, step t a1, b1⟩
end VM
