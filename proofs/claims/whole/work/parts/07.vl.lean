/-! V: locals, new cells, statics, switches, ends -/
def stL : List (Option LV) → Nat → LV → List (Option LV)
  | [], 0, v => [some v]
  | [], i + 1, v => none :: stL [] i v
  | _ :: l, 0, v => some v :: l
  | a :: l, i + 1, v => a :: stL l i v
theorem stL_get : ∀ (ls : List (Option LV)) (i : Nat) (v : LV) (j : Nat) (w : LV), (stL ls i v)[j]? = some (some w) → (j = i ∧ w = v) ∨ (j ≠ i ∧ ls[j]? = some (some w))
  | [], 0, v, j, w, h => by
    cases j with
    | zero => simp [stL] at h; exact Or.inl ⟨rfl, h.symm⟩
    | succ j => simp [stL] at h
  | [], i + 1, v, j, w, h => by
    cases j with
    | zero => simp [stL] at h
    | succ j =>
      simp [stL] at h
      rcases stL_get [] i v j w h with ⟨h1, h2⟩ | ⟨h1, h2⟩
      · exact Or.inl ⟨by omega, h2⟩
      · simp at h2
  | a :: l, 0, v, j, w, h => by
    cases j with
    | zero => simp [stL] at h; exact Or.inl ⟨rfl, h.symm⟩
    | succ j => simp [stL] at h; exact Or.inr ⟨by omega, by simpa using h⟩
  | a :: l, i + 1, v, j, w, h => by
    cases j with
    | zero => simp [stL] at h; exact Or.inr ⟨by omega, by simp [h]⟩
    | succ j =>
      simp [stL] at h
      rcases stL_get l i v j w h with ⟨h1, h2⟩ | ⟨h1, h2⟩
      · exact Or.inl ⟨by omega, h2⟩
      · exact Or.inr ⟨by omega, by simpa using h2⟩
def okS (ls : List (Option LV)) : Nat → Bool
  | 0 => true
  | j + 1 => match ls[j]? with
    | some (some w) => c1 w
    | _ => true
def mkL : List Bool → List (Option LV) → List (Option LV)
  | b :: bs, o :: l => (if b = true then o else none) :: mkL bs l
  | _, _ => []
theorem mkL_get : ∀ (bs : List Bool) (ls : List (Option LV)) (j : Nat) (w : LV), (mkL bs ls)[j]? = some (some w) → ls[j]? = some (some w)
  | [], _, j, w, h => by simp [mkL] at h
  | _ :: _, [], j, w, h => by simp [mkL] at h
  | b :: bs, o :: l, j, w, h => by
    cases j with
    | zero =>
      simp [mkL] at h
      simp [h.2]
    | succ j =>
      simp [mkL] at h
      simpa using mkL_get bs l j w h
def lvl (g : GG) (ls : List (Option LV)) : List (Nat × Value) := (List.range ls.length).filterMap fun i => match ls[i]? with
  | some (some v) => some (i, cv g v)
  | _ => none
theorem mem_lvl {g : GG} {ls : List (Option LV)} {q : Nat × Value} : q ∈ lvl g ls ↔ ∃ v, ls[q.1]? = some (some v) ∧ q.2 = cv g v := by
  simp only [lvl, List.mem_filterMap, List.mem_range]
  constructor
  · rintro ⟨i, hi, h⟩
    split at h
    · rename_i v e
      cases h
      exact ⟨v, e, rfl⟩
    · cases h
  · rintro ⟨v, h1, h2⟩
    refine ⟨q.1, (List.getElem?_eq_some_iff.mp h1).1, ?_⟩
    rw [h1]
    simp [← h2]
theorem Lc.has {g : GG} {lc : Array Slot} {n : Nat} {ls : List (Option LV)} (h : Lc g lc n ls) : lv_has lc n (lvl g ls) :=
  ⟨h.1, h.2.1, fun q hq => by obtain ⟨v, h1, h2⟩ := mem_lvl.mp hq; rw [h2]; exact h.2.2 q.1 v h1⟩
theorem Lc.st {g : GG} {lc : Array Slot} {n i : Nat} {v : LV} {ls : List (Option LV)} (ho : okS ls i = true) (h : lv_has lc n ((i, cv g v) :: (lvl g ls).filter (fun q => !(q.1 == i) && !(q.1 + 1 == i && q.2.category == 2)))) : Lc g lc n (stL ls i v) := by
  refine ⟨h.1, h.2.1, fun j w hj => ?_⟩
  rcases stL_get ls i v j w hj with ⟨rfl, rfl⟩ | ⟨h1, h2⟩
  · exact h.2.2 (j, cv g w) List.mem_cons_self
  · refine h.2.2 (j, cv g w) (List.mem_cons_of_mem _ (List.mem_filter.mpr ⟨mem_lvl.mpr ⟨w, h2, rfl⟩, ?_⟩))
    simp only [Bool.and_eq_true, Bool.not_eq_true', beq_eq_false_iff_ne, Bool.and_eq_false_iff]
    refine ⟨h1, ?_⟩
    by_cases e : j + 1 = i
    · right
      subst e
      simp only [okS, h2] at ho
      rw [cv_cat ho]
      decide
    · exact Or.inl e
section VL
variable {g : GG} {y : MM} {d n0 z0 : Nat} {rr : Option LV} {A' A B : LH} {pc : Nat} {ls ls' : List (Option LV)} {st : List LV}
theorem V.weak (bs : List Bool) (k : V g y d n0 z0 rr A' A pc (mkL bs ls) st) : V g y d n0 z0 rr A' A pc ls st :=
  ⟨k.1, fun a b p e R s m args below meth c Q H locs lc X hR hD hS hL => k.2 a b p e R s m args below meth c Q H locs lc X hR hD hS ⟨hL.1, hL.2.1, fun i v h => hL.2.2 i v (mkL_get bs ls i v h)⟩⟩
theorem V.istore_n {j : Fin 4} {i : Nat} {x : Int32} (hd : decode (mC y) pc = .ok (.istore_n j, 1)) (hi : (j : Nat) = i) (hn : i < mL y) (ho : okS ls i = true) (hs : stL ls i (LI x) = ls') (k : V g y d n0 z0 rr A' A (pc + 1) ls' st) : V g y d n0 z0 rr A' A pc ls (LI x :: st) :=
  ⟨k.1, fun a b p e R s m args below meth c Q H locs lc X hR hD hS hL => lv_istore_n X.1 X.2.1 hd hi hL.has hn rfl fun lc' h => k.2 a b p e R s m args below meth c Q H locs lc' X hR hD hS (hs ▸ Lc.st (v := LI x) ho h)⟩
theorem V.istore {i : Nat} {x : Int32} (hd : decode (mC y) pc = .ok (.istore i, 2)) (hn : i < mL y) (ho : okS ls i = true) (hs : stL ls i (LI x) = ls') (k : V g y d n0 z0 rr A' A (pc + 2) ls' st) : V g y d n0 z0 rr A' A pc ls (LI x :: st) :=
  ⟨k.1, fun a b p e R s m args below meth c Q H locs lc X hR hD hS hL => lv_istore X.1 X.2.1 hd hL.has hn rfl fun lc' h => k.2 a b p e R s m args below meth c Q H locs lc' X hR hD hS (hs ▸ Lc.st (v := LI x) ho h)⟩
theorem V.astore_n {j : Fin 4} {i : Nat} {x : Option Nat} (hd : decode (mC y) pc = .ok (.astore_n j, 1)) (hi : (j : Nat) = i) (hn : i < mL y) (ho : okS ls i = true) (hs : stL ls i (LR x) = ls') (k : V g y d n0 z0 rr A' A (pc + 1) ls' st) : V g y d n0 z0 rr A' A pc ls (LR x :: st) :=
  ⟨k.1, fun a b p e R s m args below meth c Q H locs lc X hR hD hS hL => by
    cases x with
    | none => exact lv_astore_nN X.1 X.2.1 hd hi hL.has hn rfl fun lc' h => k.2 a b p e R s m args below meth c Q H locs lc' X hR hD hS (hs ▸ Lc.st (v := LR none) ho h)
    | some x => exact lv_astore_n X.1 X.2.1 hd hi hL.has hn rfl fun lc' h => k.2 a b p e R s m args below meth c Q H locs lc' X hR hD hS (hs ▸ Lc.st (v := LR (some x)) ho h)⟩
theorem V.astore {i : Nat} {x : Option Nat} (hd : decode (mC y) pc = .ok (.astore i, 2)) (hn : i < mL y) (ho : okS ls i = true) (hs : stL ls i (LR x) = ls') (k : V g y d n0 z0 rr A' A (pc + 2) ls' st) : V g y d n0 z0 rr A' A pc ls (LR x :: st) :=
  ⟨k.1, fun a b p e R s m args below meth c Q H locs lc X hR hD hS hL => by
    cases x with
    | none => exact lv_astoreN X.1 X.2.1 hd hL.has hn rfl fun lc' h => k.2 a b p e R s m args below meth c Q H locs lc' X hR hD hS (hs ▸ Lc.st (v := LR none) ho h)
    | some x => exact lv_astore X.1 X.2.1 hd hL.has hn rfl fun lc' h => k.2 a b p e R s m args below meth c Q H locs lc' X hR hD hS (hs ▸ Lc.st (v := LR (some x)) ho h)⟩
theorem V.iinc {i : Nat} {n : Int} {x v : Int32} (hd : decode (mC y) pc = .ok (.iinc i n, 3)) (hx : ls[i]? = some (some (LI x))) (hv : Int32.ofInt n = v) (hn : i < mL y) (ho : okS ls i = true) (hs : stL ls i (LI (x + v)) = ls') (k : V g y d n0 z0 rr A' A (pc + 3) ls' st) : V g y d n0 z0 rr A' A pc ls st :=
  ⟨k.1, fun a b p e R s m args below meth c Q H locs lc X hR hD hS hL => by
    obtain ⟨kk, hk⟩ := List.getElem?_of_mem (mem_lvl (g := g) (ls := ls) (q := (i, .int x)).mpr ⟨LI x, hx, rfl⟩)
    exact lv_iinc X.1 X.2.1 hd hL.has hk (by rw [hv]) hn rfl fun lc' h => k.2 a b p e R s m args below meth c Q H locs lc' X hR hD hS (hs ▸ Lc.st (v := LI (x + v)) ho h)⟩
theorem V.ireturn {x : Int32} (hd : decode (mC y) pc = .ok (.ireturn, 1)) : V g y d n0 z0 (some (LI x)) A A pc ls [LI x] :=
  ⟨⟨Nat.le_refl _, Nat.le_refl _⟩, fun _ _ _ _ _ _ _ _ _ _ _ _ H locs lc _ hR hD hS _ => hR H locs lc pc hD hS hd⟩
theorem V.areturn {x : Option Nat} (hd : decode (mC y) pc = .ok (.areturn, 1)) : V g y d n0 z0 (some (LR x)) A A pc ls [LR x] :=
  ⟨⟨Nat.le_refl _, Nat.le_refl _⟩, fun _ _ _ _ _ _ _ _ _ _ _ _ H locs lc _ hR hD hS _ => hR H locs lc pc hD hS hd⟩
theorem V.return_ (hd : decode (mC y) pc = .ok (.return_, 1)) : V g y d n0 z0 none A A pc ls [] :=
  ⟨⟨Nat.le_refl _, Nat.le_refl _⟩, fun _ _ _ _ _ _ _ _ _ _ _ _ H locs lc _ hR hD hS _ => hR H locs lc pc hD hS hd⟩
def dfl : FieldType → LV
  | .long => LJ 0
  | .object _ => LR none
  | .array _ => LR none
  | _ => LI 0
def okT : FieldType → Bool
  | .float => false
  | .double => false
  | _ => true
theorem dfl_ok (g : GG) {t : FieldType} (h : okT t = true) : defaultValue t = cv g (dfl t) := by
  cases t <;> first | rfl | cases h
theorem V.new {ci i N : Nat} {C : String} {T : u_T} {ty : Nat → FieldType} {fs : List LV} (hc : CF ci C T N ty) (hok : ∀ j, j < N → okT (ty j) = true) (hcl : Cond.classLink (mN y).cls i C ∈ lw_tbl) (hin : Cond.instantiable C N ∈ lw_tbl) (hini : Cond.initialized C ∈ lw_tbl) (hfs : (List.range N).map (fun j => dfl (ty j)) = fs) (hd : decode (mC y) pc = .ok (.new i, 3))
    (kk : V g y d n0 z0 rr A' (al A (.inr (ci, fs)) N) (pc + 3) ls (LR (some (8 + hn A)) :: st)) : V g y d n0 z0 rr A' A pc ls st := by
  have k1 := kk.1
  rw [hn_al, hz_al] at k1
  refine ⟨⟨by omega, by omega⟩, fun a b p e R s m args below meth c Q H locs lc X hR hD hS hL => ?_⟩
  have hts : ∀ w ∈ u_ws C T N, w.before args s = true := fun w hw => X.2.2.2.2.2.1 w (hc.2.1 w hw).1 (hc.2.1 w hw).2
  have hKn := X.2.2.2.2.2.2.1.1.1 ci _ hc.1
  have x1 := X.2.2.2.2.2.2.2.2.2.2.1
  have x2 := X.2.2.2.2.2.2.2.2.2.2.2
  refine W.newcK X.1 X.2.1 X.2.2.2.1 (X.2.2.2.2.2.1 _ hcl rfl) (X.2.2.2.2.2.1 _ hin rfl) (X.2.2.2.2.2.1 _ hini rfl) rfl hd (by omega) (by omega) hKn.2.1 rfl fun H1 kC hkC e1 z1 o1 => ?_
  have hat : va_at (g_D g) vcl (g_b g + hn A, ce g (.inr (ci, fs))) H1 := by
    refine ⟨_, hc.1, ?_⟩
    rw [← hD.2.2.1]
    refine (u_born ty hts (fun _ z => z) hKn hkC e1 hc.2.2.1).to (fun j hj => ?_)
    subst hfs
    simp [vp_V, hj, dfl_ok g (hok j hj)]
  have := kk.2 (by rw [hn_al]; omega) (by rw [hz_al]; omega) p e R s m args below meth c Q H1 locs lc X hR (hD.new (w := N) hat z1 o1) ⟨Nat.le_trans hS.1 (by omega), fun x h1 h2 => (o1 x (Nat.lt_of_lt_of_le h1 hS.1)).trans (hS.2.1 x h1 h2), hS.2.2⟩ hL
  rw [hn_al, hz_al, List.map_cons, show cv g (LR (some (8 + hn A))) = .ref H.size by show Value.ref (adr g _) = _; rw [adr_hi g (by omega), hD.2.2.1]; congr 2; omega, show hn A + 1 - n0 = hn A - n0 + 1 by omega, show hz A + N - z0 = hz A - z0 + N by omega] at this
  exact this
/-- newarray of int, byte or boolean -/
theorem V.newa {t : Nat} {n : Int32} {at_ : ArrayType} {ty : FieldType} (h : nI_ A t n = some B) (hty : newarray.typeOf at_ = ty) (ht : (tyz g)[t]? = some (g_A g t, ty)) (hz0 : defaultValue ty = .int 0) (hRA : ∀ U : State, va_RA U (g_A g t) ty → U.vm.findClass ("[" ++ ty.toString) = some (g_A g t)) (hcb : componentBytes ty ≤ 4) (ha : Cond.arrayClass ty ∈ lw_tbl) (hd : decode (mC y) pc = .ok (.newarray at_, 2))
    (kk : V g y d n0 z0 rr A' B (pc + 2) ls (LR (some (8 + hn A)) :: st)) : V g y d n0 z0 rr A' A pc ls (LI n :: st) := by
  unfold nI_ at h
  split at h
  · rename_i hc
    cases h
    have k1 := kk.1
    rw [hn_al, hz_al] at k1
    refine ⟨⟨by omega, by omega⟩, fun a b p e R s m args below meth c Q H locs lc X hR hD hS hL => ?_⟩
    have x1 := X.2.2.2.2.2.2.2.2.2.2.1
    have x2 := X.2.2.2.2.2.2.2.2.2.2.2
    subst hty
    refine va_newaK X.1 X.2.1 (X.2.2.2.2.2.1 _ ha rfl) rfl hd rfl hc.1 rfl (Nat.le_trans (Nat.mul_le_mul hc.2 hcb) (by decide)) (by omega) (by omega) rfl fun H1 cA e1 z1 o1 hAr hNm => ?_
    have hcA : cA = g_A g t := Option.some.inj (hNm.symm.trans (hRA s (X.2.2.2.2.2.2.1.1.2 t _ ht).2))
    subst hcA
    have hat : va_at (g_D g) vcl (g_b g + hn A, ce g (.inl (t, n.toNatClampNeg, .inl fun _ => 0))) H1 := by
      show H1[_]? = some (vp_cell _ _)
      rw [← hD.2.2.1, e1, hz0]
      rfl
    have := kk.2 (by rw [hn_al]; omega) (by rw [hz_al]; omega) p e R s m args below meth c Q H1 locs lc X hR (hD.new (w := n.toNatClampNeg) hat z1 o1) ⟨Nat.le_trans hS.1 (by omega), fun x h1 h2 => (o1 x (Nat.lt_of_lt_of_le h1 hS.1)).trans (hS.2.1 x h1 h2), hS.2.2⟩ hL
    rw [hn_al, hz_al, List.map_cons, show cv g (LR (some (8 + hn A))) = .ref H.size by show Value.ref (adr g _) = _; rw [adr_hi g (by omega), hD.2.2.1]; congr 2; omega, show hn A + 1 - n0 = hn A - n0 + 1 by omega, show hz A + n.toNatClampNeg - z0 = hz A - z0 + n.toNatClampNeg by omega] at this
    exact this
  · cases h
theorem V.newq {t i : Nat} {n : Int32} {C : String} (h : nR_ A t n = some B) (ht : (tyz g)[t]? = some (g_A g t, .object C)) (hcl : Cond.classLink (mN y).cls i C ∈ lw_tbl) (hov : ∀ U H, RepS g U H → va_AO C U) (hd : decode (mC y) pc = .ok (.anewarray i, 3))
    (kk : V g y d n0 z0 rr A' B (pc + 3) ls (LR (some (8 + hn A)) :: st)) : V g y d n0 z0 rr A' A pc ls (LI n :: st) := by
  unfold nR_ at h
  split at h
  · rename_i hc
    cases h
    have k1 := kk.1
    rw [hn_al, hz_al] at k1
    refine ⟨⟨by omega, by omega⟩, fun a b p e R s m args below meth c Q H locs lc X hR hD hS hL => ?_⟩
    have x1 := X.2.2.2.2.2.2.2.2.2.2.1
    have x2 := X.2.2.2.2.2.2.2.2.2.2.2
    refine W.anew X.1 X.2.1 X.2.2.2.1 (X.2.2.2.2.2.1 _ hcl rfl) (va_AO.use (hov _ _ X.2.2.2.2.2.2.1)) rfl hd rfl hc.1 (Nat.le_trans (Nat.mul_le_mul hc.2 (Nat.le_refl 4)) (by decide)) (by omega) (by omega) fun cA kA comp f1 f2 f3 f4 => ?_
    obtain ⟨kA', comp', k1', k2', k3', k4'⟩ := (X.2.2.2.2.2.2.1.1.2 t _ ht).2
    have hcA : cA = g_A g t := Option.some.inj (f1.symm.trans k4')
    subst hcA
    generalize hH1 : H.push ({ cls := g_A g t, slots := Array.replicate n.toNatClampNeg .null, vm := .none } : Cell) = H1
    have z1 : H1.size = H.size + 1 := by rw [← hH1, Array.size_push]
    have e1 : H1[H.size]? = some (arrV (g_A g t) n.toNatClampNeg (fun _ => .null)) := by rw [← hH1, Array.getElem?_push_size, ← arrV_new]
    have o1 : ∀ q : Nat, q < H.size → H1[q]? = H[q]? := fun q hq => by rw [← hH1, Array.getElem?_push, if_neg (Nat.ne_of_lt hq)]
    have hat : va_at (g_D g) vcl (g_b g + hn A, ce g (.inl (t, n.toNatClampNeg, .inr fun _ => none))) H1 := by
      show H1[_]? = some (vp_cell _ _)
      rw [← hD.2.2.1, e1]
      rfl
    have := kk.2 (by rw [hn_al]; omega) (by rw [hz_al]; omega) p e R s m args below meth c Q H1 locs lc X hR (hD.new (w := n.toNatClampNeg) hat z1 o1) ⟨Nat.le_trans hS.1 (by omega), fun x h1 h2 => (o1 x (Nat.lt_of_lt_of_le h1 hS.1)).trans (hS.2.1 x h1 h2), hS.2.2⟩ hL
    rw [hn_al, hz_al, List.map_cons, show cv g (LR (some (8 + hn A))) = .ref H.size by show Value.ref (adr g _) = _; rw [adr_hi g (by omega), hD.2.2.1]; congr 2; omega, show hn A + 1 - n0 = hn A - n0 + 1 by omega, show hz A + n.toNatClampNeg - z0 = hz A - z0 + n.toNatClampNeg by omega] at this
    exact this
  · cases h
theorem V.getsW {i : Nat} (hl : Cond.fieldLink (mN y).cls i RX2 "TOP_OF_WHO" "[I" ∈ lw_tbl) (hd : decode (mC y) pc = .ok (.getstatic i, 3)) (kk : V g y d n0 z0 rr A' A (pc + 3) ls (LR (some 1) :: st)) : V g y d n0 z0 rr A' A pc ls st :=
  ⟨kk.1, fun a b p e R s m args below meth c Q H locs lc X hR hD hS hL => va_gets X.1 X.2.1 X.2.2.2.2.2.2.1.2.2.2.2.2.1 hS X.2.2.2.1 (X.2.2.2.2.2.1 _ hl rfl) (fun _ h => h) hd (kk.2 a b p e R s m args below meth c Q H locs lc X hR hD hS hL)⟩
theorem V.getsT {i : Nat} (hl : Cond.fieldLink (mN y).cls i RX2 "TOP_OF_WHAT" "[I" ∈ lw_tbl) (hd : decode (mC y) pc = .ok (.getstatic i, 3)) (kk : V g y d n0 z0 rr A' A (pc + 3) ls (LR (some 2) :: st)) : V g y d n0 z0 rr A' A pc ls st :=
  ⟨kk.1, fun a b p e R s m args below meth c Q H locs lc X hR hD hS hL => va_gets X.1 X.2.1 X.2.2.2.2.2.2.1.2.2.2.2.2.2.1 hS X.2.2.2.1 (X.2.2.2.2.2.1 _ hl rfl) (fun _ h => h) hd (kk.2 a b p e R s m args below meth c Q H locs lc X hR hD hS hL)⟩
theorem V.ldcS (h62 : (mN y).cls = RX7) (hd : decode (mC y) pc = .ok (.ldc 85, 2)) (kk : V g y d n0 z0 rr A' A (pc + 2) ls (LR (some 3) :: st)) : V g y d n0 z0 rr A' A pc ls st :=
  ⟨kk.1, fun a b p e R s m args below meth c Q H locs lc X hR hD hS hL => va_ldcS X.1 X.2.1 (h62 ▸ X.2.2.2.1) X.2.2.2.2.2.2.1.2.2.2.2.2.2.2.2.1 hd (kk.2 a b p e R s m args below meth c Q H locs lc X hR hD hS hL)⟩
theorem V.tableIn {x : Int32} {dflt lo hi off : Int} {offs : Array Int} {len tgt : Nat} (hd : decode (mC y) pc = .ok (.tableswitch dflt lo hi offs, len)) (h1 : ¬ x.toInt < lo) (h2 : ¬ hi < x.toInt) (ho : offs[(x.toInt - lo).toNat]? = some off) (ht : (pc : Int) + off = (tgt : Int)) (k : V g y d n0 z0 rr A' A tgt ls st) : V g y d n0 z0 rr A' A pc ls (LI x :: st) :=
  k.pure fun _ _ _ _ _ _ _ _ _ _ _ _ _ _ _ X _ w => lv_tableIn X.1 X.2.1 hd h1 h2 ho ht w
theorem V.tableOut {x : Int32} {dflt lo hi : Int} {offs : Array Int} {len tgt : Nat} (hd : decode (mC y) pc = .ok (.tableswitch dflt lo hi offs, len)) (h : x.toInt < lo ∨ hi < x.toInt) (ht : (pc : Int) + dflt = (tgt : Int)) (k : V g y d n0 z0 rr A' A tgt ls st) : V g y d n0 z0 rr A' A pc ls (LI x :: st) :=
  k.pure fun _ _ _ _ _ _ _ _ _ _ _ _ _ _ _ X _ w => lv_tableOut X.1 X.2.1 hd h ht w
theorem V.lookup {x : Int32} {dflt off : Int} {ps : Array (Int × Int)} {len tgt : Nat} (hd : decode (mC y) pc = .ok (.lookupswitch dflt ps, len)) (hp : (ps.toList.zip (ps.toList.drop 1)).all (fun (a, next) => a.1 < next.1) = true) (ho : Op.lookupswitch.offset ps.toList dflt x.toInt = off) (ht : (pc : Int) + off = (tgt : Int)) (k : V g y d n0 z0 rr A' A tgt ls st) : V g y d n0 z0 rr A' A pc ls (LI x :: st) :=
  k.pure fun _ _ _ _ _ _ _ _ _ _ _ _ _ _ _ X _ w => lv_lookup X.1 X.2.1 hd hp ho ht w
end VL
