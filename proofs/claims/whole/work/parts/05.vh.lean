/-! V over instructions that read or write the heap, locals, and at a method's end -/
def CF (ci : Nat) (C : String) (T : u_T) (N : Nat) (ty : Nat → FieldType) : Prop :=
  vcl[ci]? = some (C, T, N) ∧ (∀ w ∈ u_ws C T N, w ∈ lw_tbl ∧ goodWord w = true) ∧ (∀ k, k < N → parseFieldDescriptor (T k).2.2.1 = some (ty k)) ∧ ∀ a, a < N → ∀ b, b < N → a ≠ b → (T a).2.1 ≠ (T b).2.1
/-- a field's link: plain, or of a nest mate -/
def FLk (own : String) (i : Nat) (T : u_T) (k : Nat) : Prop := Cond.fieldLink own i (T k).1 (T k).2.1 (T k).2.2.1 ∈ lw_tbl
def FLn (own : String) (i : Nat) (T : u_T) (k : Nat) : Prop := Cond.fieldLinkNest own i (T k).1 (T k).2.1 (T k).2.2.1 "RulesTried" ∈ tables_1
theorem ci_lt {ci : Nat} {C : String} {T : u_T} {N : Nat} {ty : Nat → FieldType} (h : CF ci C T N ty) : ci < 12 := (List.getElem?_eq_some_iff.mp h.1).1
theorem ne_ab {ci : Nat} {fs : List LV} (h : ci < 12) : (.inr (ci, fs) : LC) ≠ ab_ := by
  intro e; unfold ab_ at e; cases e; omega
theorem ne_ab2 {x : Nat × Nat × ((Nat → Int32) ⊕ (Nat → Option Nat))} : (.inl x : LC) ≠ ab_ := by
  intro e; unfold ab_ at e; cases e
theorem roc_obj {g : GG} {k ci : Nat} {fs : List LV} (h : roc g k = .inr (ci, fs)) : ci = 100 := by
  unfold roc at h
  split at h
  · cases h
  · split at h
    · cases h
    · split at h
      · cases h
      · cases h; rfl
theorem RepD.o8 {g : GG} {A : LH} {H : Heap} (hD : RepD g A H) {q ci : Nat} {fs : List LV} (h : gc A q = .inr (ci, fs)) (hc : ci < 12) : 8 ≤ q := by
  refine Nat.not_lt.mp fun q8 => ?_
  have := roc_obj ((hD.2.2.2.2.1 q q8).symm.trans h)
  omega
theorem RepD.obj {g : GG} {A : LH} {H : Heap} (hD : RepD g A H) {q ci : Nat} {fs : List LV} (h : gc A q = .inr (ci, fs)) (hc : ci < 12) : va_at (g_D g) vcl (adr g q, .inr (ci, fs.map (cv g))) H := by
  have h1 := hD.at (hD.o8 h hc) (by rw [h]; exact ne_ab hc)
  rw [h] at h1
  exact h1
theorem va_P1 {D : va_G} {cl : List vw_C} {x : Nat × va_E} {H : Heap} (h : va_at D cl x H) : va_P D cl [x] H := by
  intro k q hq
  have hz : k < 1 := (List.getElem?_eq_some_iff.mp hq).1
  rw [show k = 0 by omega] at hq
  cases hq
  exact h
section VH
variable {g : GG} {y : MM} {d n0 z0 : Nat} {rr : Option LV} {A' A B : LH} {pc : Nat} {ls : List (Option LV)} {st : List LV}
theorem V.getF {r : Option Nat} {ci k i N : Nat} {C : String} {T : u_T} {ty : Nat → FieldType} {v : LV} (h : gF A r ci k = some v) (hc : CF ci C T N ty) (hk : k < N) (hl : FLk (mN y).cls i T k) (hd : decode (mC y) pc = .ok (.getfield i, 3))
    (kk : V g y d n0 z0 rr A' A (pc + 3) ls (v :: st)) : V g y d n0 z0 rr A' A pc ls (LR r :: st) := by
  obtain ⟨q, fs, rfl, hq, hv⟩ := gF_sp h
  refine ⟨kk.1, fun a b p e R s m args below meth c Q H locs lc X hR hD hS hL => ?_⟩
  exact va_get (ws := [(adr g q, .inr (ci, fs.map (cv g)))]) X.1 X.2.1 (Ts := u_ws C T N) (fun w hw => X.2.2.2.2.2.1 w (hc.2.1 w hw).1 (hc.2.1 w hw).2) (fun _ z => z) X.2.2.2.1 X.2.2.2.2.2.2.1.1 (va_P1 (hD.obj hq (ci_lt hc))) 0 rfl hc.1 k hk (X.2.2.2.2.2.1 _ hl rfl) (fun _ z => z) (v := cv g v) (by simp [hv]) hd (kk.2 a b p e R s m args below meth c Q H locs lc X hR hD hS hL)
theorem V.getFN {r : Option Nat} {ci k i N : Nat} {C : String} {T : u_T} {ty : Nat → FieldType} {v : LV} (h : gF A r ci k = some v) (hc : CF ci C T N ty) (hk : k < N) (hl : FLn (mN y).cls i T k) (hd : decode (mC y) pc = .ok (.getfield i, 3))
    (kk : V g y d n0 z0 rr A' A (pc + 3) ls (v :: st)) : V g y d n0 z0 rr A' A pc ls (LR r :: st) := by
  obtain ⟨q, fs, rfl, hq, hv⟩ := gF_sp h
  refine ⟨kk.1, fun a b p e R s m args below meth c Q H locs lc X hR hD hS hL => ?_⟩
  exact va_getN (ws := [(adr g q, .inr (ci, fs.map (cv g)))]) X.1 X.2.1 (Ts := u_ws C T N) (fun w hw => X.2.2.2.2.2.1 w (hc.2.1 w hw).1 (hc.2.1 w hw).2) (fun _ z => z) X.2.2.2.1 X.2.2.2.2.2.2.1.1 (va_P1 (hD.obj hq (ci_lt hc))) 0 rfl hc.1 k hk (va_Nw.use rfl (X.2.2.2.2.2.2.1.2.1 _ hl rfl)) (fun _ z => z) (v := cv g v) (by simp [hv]) hd (kk.2 a b p e R s m args below meth c Q H locs lc X hR hD hS hL)
/-- what a write to a field needs and leaves -/
theorem fld_w {s : State} {args : Array Value} {H : Heap} {q ci k N : Nat} {fs : List LV} {C : String} {T : u_T} {ty : Nat → FieldType} (v : LV) (hD : RepD g A H) (hK : va_K (g_D g) vcl (tyz g) s) (hts : ∀ w ∈ u_ws C T N, w.before args s = true) (hc : CF ci C T N ty) (hq : gc A q = .inr (ci, fs)) (hk : k < N) (hl : k < fs.length) (hn : narrow (ty k) (cv g v) = cv g v) (hfit : fits (ty k) (cv g v) = true) :
    ∃ (cell : Cell) (cf : Nat) (kf : Class) (fi : Nat) (f : Field), H[adr g q]? = some cell ∧ cell.vm = .none ∧ s.fieldFound? (T k).1 (T k).2.1 (T k).2.2.1 = some (cf, kf, fi, f) ∧ f.isStatic = false ∧ f.slot < cell.slots.size ∧ (narrow f.type (cv g v) = cv g v ∧ s.fitsSlot cell.cls .none f.slot (cv g v) = true) ∧
      ((T k).2.2.2 = false → hasFlag f.accessFlags Acc.final = false) ∧ (∀ own, (T k).2.2.2 = true → (T k).1 = own → s.vm.findClass own = some cf) ∧ ∀ H1 : Heap, H1[adr g q]? = some (cell.setSlot f.slot (cv g v)) → va_at (g_D g) vcl (adr g q, ce g (.inr (ci, fs.set k v))) H1 := by
  have hap := va_apart (own := C) hts (fun _ z => z) ty hc.2.2.1 hc.2.2.2 hK hc.1
  obtain ⟨r, h1, cell, q1, q2, q3, q4⟩ := hD.obj hq (ci_lt hc)
  have hr : r = (C, T, N) := Option.some.inj (h1.symm.trans hc.1)
  subst hr
  obtain ⟨hS, hfc, kC, hkC, hkind⟩ := hK.1 ci _ hc.1
  obtain ⟨cf, kf, fi, f, hi, hsl⟩ := hS k hk
  have hlay := hts _ (u_in_lay hk)
  have hst := (u_facts hfc hkC (u_lays hts (fun _ z => z) hk) hi).1
  have h6 := u_fits hfc hkC hkind (u_lays hts (fun _ z => z) hk) hi (hc.2.2.1 k hk) hn hfit
  refine ⟨cell, cf, kf, fi, f, q1, q3, hi, hst, by rw [hsl]; exact k2_hasslot (q4 k hk), by rw [q2]; exact h6, fun hf => ?_, fun own hf ho => ?_, fun H1 e1 => ?_⟩
  · unfold u_lay at hlay
    rw [if_neg (by rw [hf]; decide)] at hlay
    exact (u_store hfc hkC hkind hlay hi (hc.2.2.1 k hk) hn hfit).1
  · unfold u_lay at hlay
    rw [if_pos hf] at hlay
    obtain ⟨_, _, c', _, _, _, -, -, hf', -, -, -, hown2, -⟩ := Cond.laysFinal_spec hlay
    have e1 : c' = cf := by have := hi.symm.trans hf'; simp at this; exact this.1.symm
    rw [← ho, ← e1]; exact hown2
  · rw [hsl] at e1
    refine ⟨_, hc.1, t_OB.to (V := updV (vp_V (fs.map (cv g))) k (cv g v)) ⟨_, e1, q2, q3, t_set q4 hap hk (cv g v)⟩ (fun j _ => ?_)⟩
    rw [List.map_set]
    exact vp_updV_set (by simpa using hl) (cv g v) j
theorem V.putF {r : Option Nat} {ci k i N : Nat} {C : String} {T : u_T} {ty : Nat → FieldType} {v : LV} (h : pF A r ci k v = some B) (hn : narrow (ty k) (cv g v) = cv g v) (hfit : fits (ty k) (cv g v) = true) (hf : (T k).2.2.2 = false) (hc : CF ci C T N ty) (hk : k < N) (hl : FLk (mN y).cls i T k) (hd : decode (mC y) pc = .ok (.putfield i, 3))
    (kk : V g y d n0 z0 rr A' B (pc + 3) ls st) : V g y d n0 z0 rr A' A pc ls (v :: LR r :: st) := by
  obtain ⟨q, fs, rfl, hq, hkl, h8, rfl⟩ := pF_sp h
  refine ⟨by have := kk.1; rwa [hn_sc, hz_sc] at this, fun a b p e R s m args below meth c Q H locs lc X hR hD hS hL => ?_⟩
  obtain ⟨cell, cf, kf, fi, f, w1, w2, w3, w4, w5, w6, w7, w8, w9⟩ := fld_w (args := args) v hD X.2.2.2.2.2.2.1.1 (fun w hw => X.2.2.2.2.2.1 w (hc.2.1 w hw).1 (hc.2.1 w hw).2) hc hq hk hkl hn hfit
  refine W.putK X.1 X.2.1 (f := f) ⟨X.2.2.2.1, X.2.2.2.2.2.1 _ hl rfl, ⟨_, _, _, w3⟩, w4⟩ ⟨w7 hf, w6⟩ w1 w2 w5 rfl rfl hd fun H1 e1 e2 e3 => ?_
  have := kk.2 (by rw [hn_sc]; exact a) (by rw [hz_sc]; exact b) p e R s m args below meth c Q H1 _ lc X hR (hD.put h8 (by rw [hq]; exact ne_ab (ci_lt hc)) (w9 H1 e1) e2 e3) (RepD.S (A := A) (j := f.slot) hS h8 e2 e3) hL
  rwa [hn_sc, hz_sc] at this
theorem V.putFN {r : Option Nat} {ci k i N : Nat} {C : String} {T : u_T} {ty : Nat → FieldType} {v : LV} (h : pF A r ci k v = some B) (hn : narrow (ty k) (cv g v) = cv g v) (hfit : fits (ty k) (cv g v) = true) (hf : (T k).2.2.2 = false) (hc : CF ci C T N ty) (hk : k < N) (hl : FLn (mN y).cls i T k) (hd : decode (mC y) pc = .ok (.putfield i, 3))
    (kk : V g y d n0 z0 rr A' B (pc + 3) ls st) : V g y d n0 z0 rr A' A pc ls (v :: LR r :: st) := by
  obtain ⟨q, fs, rfl, hq, hkl, h8, rfl⟩ := pF_sp h
  refine ⟨by have := kk.1; rwa [hn_sc, hz_sc] at this, fun a b p e R s m args below meth c Q H locs lc X hR hD hS hL => ?_⟩
  obtain ⟨cell, cf, kf, fi, f, w1, w2, w3, w4, w5, w6, w7, w8, w9⟩ := fld_w (args := args) v hD X.2.2.2.2.2.2.1.1 (fun w hw => X.2.2.2.2.2.1 w (hc.2.1 w hw).1 (hc.2.1 w hw).2) hc hq hk hkl hn hfit
  refine va_WputK X.1 X.2.1 (f := f) X.2.2.2.1 (va_Nw.use rfl (X.2.2.2.2.2.2.1.2.1 _ hl rfl)) w3 w4 ⟨w7 hf, w6⟩ w1 w2 w5 rfl rfl hd fun H1 e1 e2 e3 => ?_
  have := kk.2 (by rw [hn_sc]; exact a) (by rw [hz_sc]; exact b) p e R s m args below meth c Q H1 _ lc X hR (hD.put h8 (by rw [hq]; exact ne_ab (ci_lt hc)) (w9 H1 e1) e2 e3) (RepD.S (A := A) (j := f.slot) hS h8 e2 e3) hL
  rwa [hn_sc, hz_sc] at this
theorem V.putFF {r : Option Nat} {ci k i N : Nat} {C : String} {T : u_T} {ty : Nat → FieldType} {v : LV} (h : pF A r ci k v = some B) (hn : narrow (ty k) (cv g v) = cv g v) (hfit : fits (ty k) (cv g v) = true) (hf : (T k).2.2.2 = true) (ho : (T k).1 = (mN y).cls) (hi : (mN y).name = "<init>") (hc : CF ci C T N ty) (hk : k < N) (hl : FLk (mN y).cls i T k) (hd : decode (mC y) pc = .ok (.putfield i, 3))
    (kk : V g y d n0 z0 rr A' B (pc + 3) ls st) : V g y d n0 z0 rr A' A pc ls (v :: LR r :: st) := by
  obtain ⟨q, fs, rfl, hq, hkl, h8, rfl⟩ := pF_sp h
  refine ⟨by have := kk.1; rwa [hn_sc, hz_sc] at this, fun a b p e R s m args below meth c Q H locs lc X hR hD hS hL => ?_⟩
  obtain ⟨cell, cf, kf, fi, f, w1, w2, w3, w4, w5, w6, w7, w8, w9⟩ := fld_w (args := args) v hD X.2.2.2.2.2.2.1.1 (fun w hw => X.2.2.2.2.2.1 w (hc.2.1 w hw).1 (hc.2.1 w hw).2) hc hq hk hkl hn hfit
  refine W.putFinK X.1 X.2.1 X.2.2.2.1 (X.2.2.2.2.2.1 _ hl rfl) w3 w4 (Option.some.inj (X.2.2.2.1.symm.trans (w8 _ hf ho))) (X.2.2.2.2.1 hi) w6 w1 w2 w5 rfl rfl hd fun H1 e1 e2 e3 => ?_
  have := kk.2 (by rw [hn_sc]; exact a) (by rw [hz_sc]; exact b) p e R s m args below meth c Q H1 _ lc X hR (hD.put h8 (by rw [hq]; exact ne_ab (ci_lt hc)) (w9 H1 e1) e2 e3) (RepD.S (A := A) (j := f.slot) hS h8 e2 e3) hL
  rwa [hn_sc, hz_sc] at this
end VH
