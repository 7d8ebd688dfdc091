/-! V: calls -/
theorem RepS.moved {g : GG} {s U : State} {H : Heap} (h : RepS g s s.heap) (hb : g_b g ≤ s.heap.size) (hW : s.WarmedH U.vm) (hq : ∀ q : Nat, q < s.heap.size → ¬ aw g q → H[q]? = s.heap[q]?) : RepS g U H := by
  obtain ⟨h1, h2, ⟨h3, h3'⟩, h4, h5, h6, h7, h8, h9, h10, h11, h12, h13, h14⟩ := h
  refine ⟨va_K.moved hW.alike h1, fun w hw hn => ?_, ⟨(va_X.moved hW.alike h3).kept (hq _ (Nat.lt_of_lt_of_le h3' hb) (Nat.not_le.mpr h3')), h3'⟩, (va_T.moved hW.alike h4).kept hq, (va_T.moved hW.alike h5).kept hq, (va_Z.moved hW.alike h6).kept hq, (va_Z.moved hW.alike h7).kept hq, (va_Z.moved hW.alike h8).kept hq, h9.warm hW, (vk_S.moved hW.alike h10).kept hq, va_AO.moved hW.alike h11, va_AO.moved hW.alike h12, va_AO.moved hW.alike h13, h14.imp (fun z => (va_Z.moved hW.alike z).kept hq) (fun z => (va_Z.moved hW.alike z).kept hq)⟩
  have h0 := h2 w hw hn
  cases w <;> first | (cases hn; done) | exact va_Nw.warmF hW h0 | exact va_Nw.warmM hW h0
theorem RepS.same {g : GG} {u U : State} {H : Heap} (hv : U.vm = u.vm) (h : RepS g u H) : RepS g U H := by
  have hA : u.vm.Alike U.vm := by rw [hv]; exact Vm.Alike.refl _
  obtain ⟨h1, h2, ⟨h3, h3'⟩, h4, h5, h6, h7, h8, h9, h10, h11, h12, h13, h14⟩ := h
  refine ⟨va_K.moved hA h1, fun w hw hn => ?_, ⟨va_X.moved hA h3, h3'⟩, va_T.moved hA h4, va_T.moved hA h5, va_Z.moved hA h6, va_Z.moved hA h7, va_Z.moved hA h8, h9.same hv, vk_S.moved hA h10, va_AO.moved hA h11, va_AO.moved hA h12, va_AO.moved hA h13, h14.imp (fun z => va_Z.moved hA z) (fun z => va_Z.moved hA z)⟩
  have h0 := h2 w hw hn
  cases w <;> first | (cases hn; done) | exact va_Nw.same rfl hv.symm h0
def yco (y : MM) : Cond := Cond.code (mN y) (mC y) (mL y) (mR y)
def ent : List LV → List (Option LV)
  | [] => []
  | v :: l => if c1 v = true then some v :: ent l else some v :: none :: ent l
def lsz : List LV → Nat
  | [] => 0
  | v :: l => (if c1 v = true then 1 else 2) + lsz l
def RT : Option FieldType → Option LV → Prop
  | none, none => True
  | some ty, some (.inl v) => narrow ty (.int v) = .int v
  | some ty, some (.inr (.inl _)) => (∃ n, ty = .object n) ∨ ∃ t, ty = .array t
  | _, _ => False
theorem cv_cat2 {g : GG} {v : LV} : (cv g v).category = if c1 v = true then 1 else 2 := by
  obtain x | (_ | a) | w := v <;> rfl
theorem lsz_ok (g : GG) : ∀ l : List LV, (lg_sl (l.map (cv g))).length = lsz l
  | [] => rfl
  | v :: l => by
    have ih := lsz_ok g l
    unfold lg_sl at ih ⊢
    simp only [List.map_cons, List.flatMap_cons, List.length_append, ih, lsz, cv_cat2]
    by_cases h : c1 v = true <;> simp [h]
theorem ent_mem (g : GG) : ∀ (l : List LV) (o j : Nat) (v : LV), (ent l)[j]? = some (some v) → (o + j, cv g v) ∈ lv_args o (l.map (cv g))
  | [], o, j, v, h => by simp [ent] at h
  | w :: l, o, j, v, h => by
    simp only [List.map_cons, lv_args, cv_cat2]
    by_cases hc : c1 w = true
    · simp only [ent, hc, if_true] at h ⊢
      cases j with
      | zero => simp at h; subst h; simp
      | succ j =>
        simp at h
        have := ent_mem g l (o + 1) j v h
        rw [show o + 1 + j = o + (j + 1) by omega] at this
        simp [this]
    · simp only [ent, hc] at h ⊢
      cases j with
      | zero => simp at h; subst h; simp
      | succ j =>
        cases j with
        | zero => simp at h
        | succ j =>
          simp at h
          have := ent_mem g l (o + 2) j v h
          rw [show o + 2 + j = o + (j + 1 + 1) by omega] at this
          simp [this]
def QC (g : GG) (rr : Option LV) (A' : LH) : Array Value → State → Outcome → State → Prop := fun _ st o t => (o = .returned (rr.map (cv g)) ∧ RepD g A' t.heap) ∧ va_F (aw g) st t
def MK (y : MM) (n : Nat) : Prop := plainName (mN y).cls = true ∧ yco y ∈ lw_tbl ∧ Cond.initialized (mN y).cls ∈ lw_tbl ∧ ((mN y).cls ≠ "java/lang/invoke/MethodHandle" ∧ (mN y).cls ≠ "java/lang/invoke/VarHandle") ∧ (parseMethodDescriptor (mN y).desc).map (fun d => d.parameters.length) = some n ∧ mL y ≤ 21
theorem V.met {g : GG} {y : MM} {d n : Nat} {rr : Option LV} {A' A : LH} {args : List LV} (hV : V g y d (hn A) (hz A) rr A' A 0 (ent args) []) (hm : MK y n) (hrt : RT (mR y) rr) (hls : lsz args ≤ mL y) :
    Met (g_l g) (mN y) (yco y :: gtb) { frames := d, cells := hn A' - hn A, slots := hz A' - hz A, locals := 40 * d } (va_Pc (args.map (cv g)) (fun U => RepS g U U.heap ∧ RepD g A U.heap)) (QC g rr A') (hn A' - hn A) (hz A' - hz A) (aw g) := by
  refine Met.ofW (cc := mC y) (maxL := mL y) (ret := mR y) hm.1 rfl ?_
  intro p e s m args' below meth c s₁ B hml hv
  obtain ⟨rfl, hRS, hRD⟩ := hv
  have hts := atoms_spec (ws := yco y :: gtb) B.pre
  have hown : s.vm.findClass (mN y).cls = some m.cls := findClass_of_methodNamed B.named
  have hl := lv_entry (args.map (cv g)) (n := mL y) (by rw [lsz_ok]; exact hls)
  rw [lg_entry_eq]
  have hb : g_b g ≤ s.heap.size := by rw [hRD.2.2.1]; exact Nat.le_add_right _ _
  have k1 := hV.1
  have := hV.2 (Nat.le_refl _) (Nat.le_refl _) p e (headSpec (yco y :: gtb) { frames := d, cells := hn A' - hn A, slots := hz A' - hz A, locals := 40 * d }).room s m (args.map (cv g)).toArray below meth c (MQ below (QC g rr A') (args.map (cv g)).toArray s (hn A' - hn A) (hz A' - hz A) (aw g)) s.heap [] _
    ⟨B.exec, B.bytes, hml, hown, fun hnm => (name_of_methodNamed B.named B.method).1.trans hnm, fun w hw hg => hts w (List.mem_cons_of_mem _ (List.mem_filter.mpr ⟨hw, hg⟩)), hRS, hb, Nat.le_refl d, Nat.le_refl (40 * d), by show hn A' ≤ hn A + (hn A' - hn A); omega, by show hz A' ≤ hz A + (hz A' - hz A); omega⟩
    (fun H locs lc pc hD hS hd => by
      have hr := B.returns
      obtain _ | x | r | w := rr
      · cases hm : mR y with
        | none => exact W.vret B.exec B.bytes (hr.trans hm) (fun t ht hW => ⟨⟨rfl, by rw [ht]; exact hD⟩, hS.F ht⟩) hS.2.2 hd (hlocks := B.notSynchronized)
        | some ty => rw [hm] at hrt; exact hrt.elim
      · cases hm : mR y with
        | none => rw [hm] at hrt; exact hrt.elim
        | some ty => rw [hm] at hrt; exact W.zret B.exec B.bytes (hr.trans hm) hrt (fun t ht hW => ⟨⟨rfl, by rw [ht]; exact hD⟩, hS.F ht⟩) hS.2.2 hd (hlocks := B.notSynchronized)
      · cases hm : mR y with
        | none => rw [hm] at hrt; exact hrt.elim
        | some ty =>
          rw [hm] at hrt
          refine W.aret B.exec B.bytes (hr.trans hm) hrt ?_ (fun t ht hW => ⟨⟨rfl, by rw [ht]; exact hD⟩, hS.F ht⟩) hS.2.2 hd (hlocks := B.notSynchronized)
          cases r with
          | none => exact Or.inl rfl
          | some a => exact Or.inr ⟨_, rfl⟩
      · exact hd.elim)
    hRD va_S.rf ⟨hl.1, hl.2.1, fun i v h => hl.2.2 (i, cv g v) (by have := ent_mem g args 0 i v h; rwa [Nat.zero_add] at this)⟩
  rwa [Nat.sub_self, Nat.sub_self] at this
theorem run_k {p : Program} {g : GG} {e : Env} {R : Room} {s : State} {m : MethodId} {args : Array Value} {below : List Frame} {meth : Method} {c : Code} {H : Heap} {locs : List Loc} {cells slots mc ms pc : Nat} {Q : State → Prop} {lc : Array Slot} {st0 rest : List Value} {r2 : Option LV} {A1 : LH} {a : Array Value}
    (hr : va_Run p (g_l g) e R s m args below meth c H locs cells slots mc ms (F0 m pc lc st0) rest (QC g r2 A1 a) (aw g)) (hS : va_S (aw g) s.heap H locs)
    (kk : ∀ (H1 : Heap) (locs1 : List Loc), RepD g A1 H1 → va_S (aw g) s.heap H1 locs1 → W p (g_l g) e R s m args below meth c H1 locs1 (cells + mc) (slots + ms) Q (F0 m (pc + 3) lc ((r2.map (cv g)).toList ++ rest))) : W p (g_l g) e R s m args below meth c H locs cells slots Q (F0 m pc lc st0) := by
  intro T hT X
  obtain ⟨v, st₀, t, T', L, h0, X', hL, e1, e2, ⟨⟨hv, hD⟩, hz, hk⟩, st⟩ := hr T hT X
  cases hv
  rw [h0] at hz hk
  obtain ⟨t2, a1, b1⟩ := kk T'.heap (locs ++ L) (by rw [e1]; exact hD)
    ⟨Nat.le_trans hS.1 (by rw [e1]; exact hz), fun q h1 h2 => by rw [e1, hk q (Nat.lt_of_lt_of_le h1 hS.1) h2]; exact hS.2.1 q h1 h2, fun q hq => by
      rcases List.mem_append.mp hq with h | h
      · exact hS.2.2 q h
      · exact hL q h⟩ T' rfl X'
  exact ⟨t2, st t2 a1, b1⟩
def isO (A : LH) (r : Option Nat) (ci : Nat) : Bool := match r with
  | none => false
  | some q => match gc A q with
    | .inr (c, _) => c == ci
    | _ => false
theorem isO_sp {A : LH} {r : Option Nat} {ci : Nat} (h : isO A r ci = true) : ∃ q fs, r = some q ∧ gc A q = .inr (ci, fs) := by
  unfold isO at h
  split at h
  · cases h
  · split at h
    · rename_i q _ c fs e
      have := eq_of_beq h
      subst this
      exact ⟨q, fs, rfl, e⟩
    · cases h
theorem ifN {α : Type} {c : Prop} [Decidable c] {a : Option α} {x : α} (h : (if c then a else none) = some x) : c ∧ a = some x := by
  by_cases hc : c
  · rw [if_pos hc] at h; exact ⟨hc, h⟩
  · rw [if_neg hc] at h; cases h
theorem stw {g : GG} : ∀ st : List LV, ((st.map (cv g)).map fun v => v.category).sum = lsz st
  | [] => rfl
  | v :: l => by simp only [List.map_cons, List.sum_cons, stw l, lsz, cv_cat2]
section VC
variable {g : GG} {y y2 : MM} {d d2 n0 z0 n i : Nat} {rr r2 : Option LV} {A' A A1 : LH} {pc : Nat} {ls : List (Option LV)} {st stk args : List LV}
theorem pre_blind : FrameBlind (va_Pc (args.map (cv g)) (fun U => RepS g U U.heap ∧ RepD g A U.heap)) := fun _ U _ _ q => ⟨q.1, RepS.same (u := U) (H := U.heap) rfl q.2.1, q.2.2⟩
theorem V.callV {r : Option Nat} {ci N : Nat} {T : u_T} (hc : V g y2 d2 (hn A) (hz A) r2 A1 A 0 (ent (LR r :: args)) []) (ho : isO A r ci = true) (hm : MK y2 n) (hrt : RT (mR y2) r2) (hci : vcl[ci]? = some ((mN y2).cls, T, N)) (hl : Cond.methodLink (mN y).cls i (mN y2) ∈ lw_tbl) (hi : Cond.instanceMethod (mN y2) ∈ lw_tbl) (hs : Cond.selects (mN y2).cls (mN y2) (mN y2) ∈ lw_tbl) (hn1 : args.length = n) (hls : lsz (LR r :: args) ≤ mL y2) (hdd : d2 + 1 ≤ d) (hst : stk = args.reverse ++ LR r :: st) (h8 : lsz st ≤ 8) (hd : decode (mC y) pc = .ok (.invokevirtual i, 3))
    (kk : V g y d n0 z0 rr A' A1 (pc + 3) ls (r2.toList ++ st)) : V g y d n0 z0 rr A' A pc ls stk := by
  obtain ⟨q, fs, rfl, hq⟩ := isO_sp ho
  subst hst
  have k1 := kk.1
  have k2 := hc.1
  refine ⟨⟨Nat.le_trans k2.1 k1.1, Nat.le_trans k2.2 k1.2⟩, fun a b p e R s m argsC below meth c Q H locs lc X hR hD hS hL => ?_⟩
  obtain ⟨x1, x2, x3, x4, x5, x6, x7, x8, x9, x10, x11, x12⟩ := id X
  have hci12 : ci < 12 := (List.getElem?_eq_some_iff.mp hci).1
  have hM := V.met hc hm hrt hls
  obtain ⟨r', hr', cellB, g1, g2, g3, -⟩ := hD.obj hq hci12
  have hcl := (x7.1.1 ci _ hci).2.1
  have hml := hm.2.2.2.2.2
  refine run_k (mc := hn A1 - hn A) (ms := hz A1 - hz A) (rest := st.map (cv g)) (r2 := r2) (A1 := A1) (va_runV (b := adr g q) (As := args.map (cv g)) (Ts := gtb) (C := (mN y2).cls) (n := n) (bytes := mC y2) (maxL := mL y2) (ret := mR y2) ⟨x1, x2, x3, x4, fun w hw => x6 w (List.mem_filter.mp hw).1 (List.mem_filter.mp hw).2⟩ hM
    ⟨⟨rfl, rfl, Nat.le_trans hdd x9, ?_, fun w hw a' U hW => ?_, List.mem_cons_self, x6 _ hm.2.1 rfl, x6 _ hm.2.2.1 rfl, hm.2.2.2.1, fun sig h => ?_, x6 _ hl rfl⟩, x6 _ hi rfl, x6 _ hs rfl⟩
    ⟨pre_blind, ⟨cellB, g1, by rw [g3]; rfl, by rw [g2]; exact hcl⟩, fun U hU hW => ⟨rfl, by rw [hU]; exact x7.moved x8 hW hS.2.1, by rw [hU]; exact hD⟩⟩
    rfl (by rw [List.length_map]; exact hn1) hL.1 (by simp [cv]) (by show 2 * 0 + _ ≤ 8; rw [stw, Nat.zero_add]; exact h8) hd ⟨by omega, by omega⟩) hS (fun H1 locs1 hD1 hS1 => ?_)
  · show 8 + (mL y2 + 11) + 40 * d2 ≤ R.locals
    omega
  · rcases List.mem_cons.mp hw with rfl | hw
    · exact word_at hW (Or.inl rfl) (x6 _ hm.2.1 rfl)
    · exact word_at hW (good_of_word (List.mem_filter.mp hw).2) (x6 w (List.mem_filter.mp hw).1 (List.mem_filter.mp hw).2)
  · have h2 := hm.2.2.2.2.1
    rw [h] at h2
    exact (Option.some.inj h2).symm
  · have := kk.2 (by omega) (by omega) p e R s m argsC below meth c Q H1 locs1 lc X hR hD1 hS1 hL
    rw [show hn A1 - n0 = hn A - n0 + (hn A1 - hn A) by omega, show hz A1 - z0 = hz A - z0 + (hz A1 - hz A) by omega, List.map_append] at this
    cases r2 <;> exact this
theorem V.callS (hc : V g y2 d2 (hn A) (hz A) r2 A1 A 0 (ent args) []) (hm : MK y2 n) (hrt : RT (mR y2) r2) (hl : Cond.methodLink (mN y).cls i (mN y2) ∈ lw_tbl) (hi : Cond.static (mN y2) ∈ lw_tbl) (hn1 : args.length = n) (hls : lsz args ≤ mL y2) (hdd : d2 + 1 ≤ d) (hst : stk = args.reverse ++ st) (h8 : lsz st ≤ 8) (hd : decode (mC y) pc = .ok (.invokestatic i, 3))
    (kk : V g y d n0 z0 rr A' A1 (pc + 3) ls (r2.toList ++ st)) : V g y d n0 z0 rr A' A pc ls stk := by
  subst hst
  have k1 := kk.1
  have k2 := hc.1
  refine ⟨⟨Nat.le_trans k2.1 k1.1, Nat.le_trans k2.2 k1.2⟩, fun a b p e R s m argsC below meth c Q H locs lc X hR hD hS hL => ?_⟩
  obtain ⟨x1, x2, x3, x4, x5, x6, x7, x8, x9, x10, x11, x12⟩ := id X
  have hM := V.met hc hm hrt hls
  have hml := hm.2.2.2.2.2
  refine run_k (mc := hn A1 - hn A) (ms := hz A1 - hz A) (rest := st.map (cv g)) (r2 := r2) (A1 := A1) (va_runS (As := args.map (cv g)) (Ts := gtb) (n := n) (bytes := mC y2) (maxL := mL y2) (ret := mR y2) ⟨x1, x2, x3, x4, fun w hw => x6 w (List.mem_filter.mp hw).1 (List.mem_filter.mp hw).2⟩ hM
    ⟨⟨rfl, rfl, Nat.le_trans hdd x9, ?_, fun w hw a' U hW => ?_, List.mem_cons_self, x6 _ hm.2.1 rfl, x6 _ hm.2.2.1 rfl, hm.2.2.2.1, fun sig h => ?_, x6 _ hl rfl⟩, x6 _ hi rfl⟩
    ⟨pre_blind, fun U hU hW => ⟨rfl, by rw [hU]; exact x7.moved x8 hW hS.2.1, by rw [hU]; exact hD⟩⟩
    rfl (by rw [List.length_map]; exact hn1) hL.1 (by simp) (by show 2 * 0 + _ ≤ 8; rw [stw, Nat.zero_add]; exact h8) hd ⟨by omega, by omega⟩) hS (fun H1 locs1 hD1 hS1 => ?_)
  · show 8 + (mL y2 + 11) + 40 * d2 ≤ R.locals
    omega
  · rcases List.mem_cons.mp hw with rfl | hw
    · exact word_at hW (Or.inl rfl) (x6 _ hm.2.1 rfl)
    · exact word_at hW (good_of_word (List.mem_filter.mp hw).2) (x6 w (List.mem_filter.mp hw).1 (List.mem_filter.mp hw).2)
  · have h2 := hm.2.2.2.2.1
    rw [h] at h2
    exact (Option.some.inj h2).symm
  · have := kk.2 (by omega) (by omega) p e R s m argsC below meth c Q H1 locs1 lc X hR hD1 hS1 hL
    rw [show hn A1 - n0 = hn A - n0 + (hn A1 - hn A) by omega, show hz A1 - z0 = hz A - z0 + (hz A1 - hz A) by omega, List.map_append] at this
    cases r2 <;> exact this
theorem V.callSN (hc : V g y2 d2 (hn A) (hz A) r2 A1 A 0 (ent args) []) (hm : MK y2 n) (hrt : RT (mR y2) r2) (hl : Cond.methodLinkNest (mN y).cls i (mN y2) "RulesTried" ∈ tables_1) (hi : Cond.static (mN y2) ∈ lw_tbl) (hn1 : args.length = n) (hls : lsz args ≤ mL y2) (hdd : d2 + 1 ≤ d) (hst : stk = args.reverse ++ st) (h8 : lsz st ≤ 8) (hd : decode (mC y) pc = .ok (.invokestatic i, 3))
    (kk : V g y d n0 z0 rr A' A1 (pc + 3) ls (r2.toList ++ st)) : V g y d n0 z0 rr A' A pc ls stk := by
  subst hst
  have k1 := kk.1
  have k2 := hc.1
  refine ⟨⟨Nat.le_trans k2.1 k1.1, Nat.le_trans k2.2 k1.2⟩, fun a b p e R s m argsC below meth c Q H locs lc X hR hD hS hL => ?_⟩
  obtain ⟨x1, x2, x3, x4, x5, x6, x7, x8, x9, x10, x11, x12⟩ := id X
  have hM := V.met hc hm hrt hls
  have hml := hm.2.2.2.2.2
  refine run_k (mc := hn A1 - hn A) (ms := hz A1 - hz A) (rest := st.map (cv g)) (r2 := r2) (A1 := A1) (va_runSN (As := args.map (cv g)) (Ts := gtb) (n := n) (bytes := mC y2) (maxL := mL y2) (ret := mR y2) (host := "RulesTried") ⟨x1, x2, x3, x4, fun w hw => x6 w (List.mem_filter.mp hw).1 (List.mem_filter.mp hw).2⟩ hM
    ⟨⟨⟨rfl, rfl, Nat.le_trans hdd x9, ?_, fun w hw a' U hW => ?_, List.mem_cons_self⟩, x6 _ hm.2.1 rfl, x6 _ hm.2.2.1 rfl, hm.2.2.2.1, fun sig h => ?_, va_Nw.use rfl (x7.2.1 _ hl rfl)⟩, x6 _ hi rfl, trivial⟩
    ⟨pre_blind, fun U hU hW => ⟨rfl, by rw [hU]; exact x7.moved x8 hW hS.2.1, by rw [hU]; exact hD⟩⟩
    rfl (by rw [List.length_map]; exact hn1) hL.1 (by simp) (by show 2 * 0 + _ ≤ 8; rw [stw, Nat.zero_add]; exact h8) hd ⟨by omega, by omega⟩) hS (fun H1 locs1 hD1 hS1 => ?_)
  · show 8 + (mL y2 + 11) + 40 * d2 ≤ R.locals
    omega
  · rcases List.mem_cons.mp hw with rfl | hw
    · exact word_at hW (Or.inl rfl) (x6 _ hm.2.1 rfl)
    · exact word_at hW (good_of_word (List.mem_filter.mp hw).2) (x6 w (List.mem_filter.mp hw).1 (List.mem_filter.mp hw).2)
  · have h2 := hm.2.2.2.2.1
    rw [h] at h2
    exact (Option.some.inj h2).symm
  · have := kk.2 (by omega) (by omega) p e R s m argsC below meth c Q H1 locs1 lc X hR hD1 hS1 hL
    rw [show hn A1 - n0 = hn A - n0 + (hn A1 - hn A) by omega, show hz A1 - z0 = hz A - z0 + (hz A1 - hz A) by omega, List.map_append] at this
    cases r2 <;> exact this
theorem V.callI {r : Option Nat} {ci : Nat} (hc : V g y2 d2 (hn A) (hz A) none A1 A 0 (ent (LR r :: args)) []) (ho : isO A r ci = true) (hm : MK y2 n) (hrt : mR y2 = none) (hl : Cond.methodLink (mN y).cls i (mN y2) ∈ lw_tbl) (hi : Cond.instanceMethod (mN y2) ∈ lw_tbl) (hy1 : (mN y2).name = "<init>") (hn1 : args.length = n) (hls : lsz (LR r :: args) ≤ mL y2) (hdd : d2 + 1 ≤ d) (hst : stk = args.reverse ++ LR r :: st) (h8 : lsz st ≤ 8) (hd : decode (mC y) pc = .ok (.invokespecial i, 3))
    (kk : V g y d n0 z0 rr A' A1 (pc + 3) ls st) : V g y d n0 z0 rr A' A pc ls stk := by
  obtain ⟨q, fs, rfl, hq⟩ := isO_sp ho
  subst hst
  have k1 := kk.1
  have k2 := hc.1
  refine ⟨⟨Nat.le_trans k2.1 k1.1, Nat.le_trans k2.2 k1.2⟩, fun a b p e R s m argsC below meth c Q H locs lc X hR hD hS hL => ?_⟩
  obtain ⟨x1, x2, x3, x4, x5, x6, x7, x8, x9, x10, x11, x12⟩ := id X
  have hM := V.met hc hm (by rw [hrt]; trivial) hls
  have hml := hm.2.2.2.2.2
  have hco : yco y2 = Cond.code (mN y2) (mC y2) (mL y2) none := by unfold yco; rw [hrt]
  refine run_k (mc := hn A1 - hn A) (ms := hz A1 - hz A) (rest := st.map (cv g)) (r2 := none) (A1 := A1) (va_runI (b := adr g q) (As := args.map (cv g)) (Ts := gtb) (n := n) (bytes := mC y2) (maxL := mL y2) ⟨x1, x2, x3, x4, fun w hw => x6 w (List.mem_filter.mp hw).1 (List.mem_filter.mp hw).2⟩ hM
    ⟨⟨rfl, rfl, Nat.le_trans hdd x9, ?_, fun w hw a' U hW => ?_, by rw [← hco]; exact List.mem_cons_self, by rw [← hco]; exact x6 _ hm.2.1 rfl, x6 _ hm.2.2.1 rfl, hm.2.2.2.1, fun sig h => ?_, x6 _ hl rfl⟩, hy1, x6 _ hi rfl⟩
    ⟨pre_blind, fun U hU hW => ⟨rfl, by rw [hU]; exact x7.moved x8 hW hS.2.1, by rw [hU]; exact hD⟩⟩
    rfl (by rw [List.length_map]; exact hn1) hL.1 (by simp [cv]) (by show 2 * 0 + _ ≤ 8; rw [stw, Nat.zero_add]; exact h8) hd ⟨by omega, by omega⟩) hS (fun H1 locs1 hD1 hS1 => ?_)
  · show 8 + (mL y2 + 11) + 40 * d2 ≤ R.locals
    omega
  · rcases List.mem_cons.mp hw with rfl | hw
    · exact word_at hW (Or.inl rfl) (x6 _ hm.2.1 rfl)
    · exact word_at hW (good_of_word (List.mem_filter.mp hw).2) (x6 w (List.mem_filter.mp hw).1 (List.mem_filter.mp hw).2)
  · have h2 := hm.2.2.2.2.1
    rw [h] at h2
    exact (Option.some.inj h2).symm
  · have := kk.2 (by omega) (by omega) p e R s m argsC below meth c Q H1 locs1 lc X hR hD1 hS1 hL
    rw [show hn A1 - n0 = hn A - n0 + (hn A1 - hn A) by omega, show hz A1 - z0 = hz A - z0 + (hz A1 - hz A) by omega] at this
    exact this
/-- Object.<init> -/
theorem V.objI {r : Option Nat} {ci : Nat} (ho : isO A r ci = true) (hl : Cond.methodLink (mN y).cls i objectInit ∈ lw_tbl) (hi : Cond.instanceMethod objectInit ∈ lw_tbl) (hco : Cond.code objectInit ⟨#[0xb1]⟩ 1 none ∈ lw_tbl) (hdd : 1 ≤ d) (h8 : lsz st ≤ 8) (hd : decode (mC y) pc = .ok (.invokespecial i, 3))
    (kk : V g y d n0 z0 rr A' A (pc + 3) ls st) : V g y d n0 z0 rr A' A pc ls (LR r :: st) := by
  obtain ⟨q, fs, rfl, hq⟩ := isO_sp ho
  refine ⟨kk.1, fun a b p e R s m argsC below meth c Q H locs lc X hR hD hS hL => ?_⟩
  obtain ⟨x1, x2, x3, x4, x5, x6, x7, x8, x9, x10, x11, x12⟩ := id X
  refine W.objInit x1 x2 x4 (x6 _ hl rfl) (x6 _ hi rfl) (x6 _ hco rfl) rfl (by rw [x3]; exact hL.1) rfl hd (by omega) (by show 2 * 0 + _ + 12 ≤ _; rw [stw]; omega) ?_
  exact kk.2 a b p e R s m argsC below meth c Q H locs lc X hR hD hS hL
end VC
