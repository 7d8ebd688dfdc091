/-! THE CLAIM OUT OF ONE WALK OF THE LAW'S BODY. Your part is whole_start (and what it stands on); all else here is the same for every law, but numbers. -/
def R_law : String := "RulesTriedLaw"
def lw_P (b : Addr) (xs : List Int32) (args : Array Value) (s : State) : Prop := args = #[.ref b] ∧ s.IntsAt b xs ∧ xs.length ≤ 3584 ∧ (Jvm.Cond.and given_1 narrow_1).before args s = true
def lw_Q (_ : Array Value) (s : State) (o : Outcome) (t : State) : Prop := o = .returned (some (.int 1)) ∧ Framed s o t [] 600000 7302250
def lw_Z (below : List Frame) (a : Array Value) (s : State) : State → Prop := fun t => ∃ o, t.status = .running ∧ Ended t below o ∧ lw_Q a s o t
/-- the law's own end, with 1 on the stack, nothing written that was there before, its room as the claim has it -/
theorem lw_ret {p : Program} {l : Launch} {e : Env} {s : State} {m : MethodId} {below : List Frame} {meth : Method} {c : Code} {b : Nat} (hx : p.tables.exec = Jvm.exec) (hb : c.code = code) (hr : meth.sig.returnType = ret) (hlocks : meth.locks = false) {pc : Nat} {H : Heap} {ls : Array Slot} (hdg : decode code pc = .ok (.ireturn, 1)) : W p l e room_1 s m #[Value.ref b] below meth c H [] 600000 7302250 (lw_Z below #[Value.ref b] s) (F0 m pc ls [.int 1]) := by
  intro T hT X
  obtain ⟨fs, hret, hrun, hended, hW, hframe⟩ := X.leave (v := some (.int 1)) (hlocks := hlocks) (fun h => by rw [hr] at h; cases h)
  have hmeth' : T.vm.method? m = some meth := X.method'
  refine ⟨T.setFrames fs, ?_, .returned (some (.int 1)), hrun, hended, rfl, ⟨_, rfl⟩, hW, hframe⟩
  jvm_step X.here [X.here.top, hx, hb, hdg, hmeth', hr, ret, narrow_b1]
  (try refine ⟨rfl, ?_⟩); (try refine ⟨rfl, ?_⟩)
  first | (intro acts; rw [hret _ acts rfl rfl rfl]) | rw [hret _ _ rfl rfl rfl]
  exact Steps.refl _
/-- what holds at the law's entry: the machine, the code, the tables' words (any of lw_tbl by 'hts w (by decide +kernel)'), the script of L ints xs at the cell b, what the Statement gives of the start (any of its parts by flat_of_before) -/
def lw_At (p : Program) (s : State) (m : MethodId) (meth : Method) (c : Code) (b L : Nat) (xs : Nat → Int32) : Prop :=
  p.tables.exec = Jvm.exec ∧ c.code = code ∧ meth.sig.returnType = ret ∧ c.maxLocals = 4 ∧ s.vm.findClass R_law = some m.cls ∧ (∀ w ∈ lw_tbl, w.before #[Value.ref b] s = true) ∧ va_X b L xs s s.heap ∧ b < s.heap.size ∧ meth.locks = false ∧ (Jvm.Cond.and given_1 narrow_1).before #[Value.ref b] s = true
-- ===== YOUR PART BEGINS =====
theorem fl_el : ∀ j, j < 120 → Cond.eq (.elem (.field (.string "RulesTried$Tokens" 85) "java/lang/String" "value" "[B") (.int (Int32.ofNat j))) (.int (w_byt.getD j 0)) ∈ flatC (Jvm.Cond.and given_1 narrow_1) := by decide +kernel
theorem fl_who : ∀ j, j < 5 → Cond.eq (.elem (.static "RulesTried$Reader" "TOP_OF_WHO" "[I") (.int (Int32.ofNat j))) (.int (a_who j)) ∈ flatC (Jvm.Cond.and given_1 narrow_1) := by decide +kernel
theorem fl_what : ∀ j, j < 4 → Cond.eq (.elem (.static "RulesTried$Reader" "TOP_OF_WHAT" "[I") (.int (Int32.ofNat j))) (.int (a_what j)) ∈ flatC (Jvm.Cond.and given_1 narrow_1) := by decide +kernel
theorem repD (n j : Nat) (a : LC) : (List.replicate n a).getD j a = a := by
  rw [List.getD_eq_getElem?_getD, List.getElem?_replicate]
  split <;> rfl
theorem A00_gc (L : Nat) (xs : Nat → Int32) (k : Nat) : gc (A00 L xs) k = if k = 0 then .inl (0, L, .inl xs) else if k = 1 then .inl (0, 5, .inl a_who) else if k = 2 then .inl (0, 4, .inl a_what) else if k < 8 then .inr (100, []) else ab_ := by
  unfold gc A00
  by_cases h : k < 62
  · rw [if_pos h]
    rcases k with _ | _ | _ | _ | _ | _ | _ | _ | k
    all_goals first | rfl | skip
    have h2 : ([.inl (0, L, .inl xs), .inl (0, 5, .inl a_who), .inl (0, 4, .inl a_what), .inr (100, []), .inr (100, []), .inr (100, []), .inr (100, []), .inr (100, [])] ++ List.replicate 54 ab_ : List LC).getD (k + 8) ab_ = ab_ := by
      rw [List.getD_eq_getElem?_getD, List.getElem?_append_right (by simp), ← List.getD_eq_getElem?_getD]
      exact repD 54 _ ab_
    simp only [Nat.reduceAdd] at *
    rw [show k + 1 + 1 + 1 + 1 + 1 + 1 + 1 + 1 = k + 8 from rfl, h2, if_neg (by omega), if_neg (by omega), if_neg (by omega), if_neg (by omega)]
  · rw [if_neg h, if_neg (by omega), if_neg (by omega), if_neg (by omega), if_neg (by omega)]
theorem A00_roc (g : GG) {k : Nat} (h : k < 8) : gc (A00 (g_L g) (g_x g)) k = roc g k := by
  rw [A00_gc]
  unfold roc
  split
  · rfl
  · split
    · rfl
    · split
      · rfl
      · first | rfl | rw [if_pos h]
set_option maxHeartbeats 4000000 in
set_option maxRecDepth 100000 in
theorem whole_start {p : Program} {e : Env} {s : State} {m : MethodId} {below : List Frame} {meth : Method} {c : Code} (l : Launch) {b L : Nat} {xs : Nat → Int32} (hL : L ≤ 3584) (C0 : lw_At p s m meth c b L xs) : W p l e room_1 s m #[Value.ref b] below meth c s.heap [] 0 0 (lw_Z below #[Value.ref b] s) (entryFrame m ([Value.ref b] : List Value).toArray 4) := by
  obtain ⟨hx, hb, hr, hml, hown, hts, hX, hbl, hlocks, hgv⟩ := id C0
  have hA : ∀ a : Nat, a < s.heap.size → ¬ (fun q : Nat => s.heap.size ≤ q) a := fun a h => Nat.not_le.mpr h
  have hfl := flat_of_before _ hgv
  obtain ⟨c0, i0, k0⟩ := u_known (C := RX0) (T := TX0) (N := 7) (n := 7) hts (fun w h => (cw0 w h).1) (hts _ in_0)
  obtain ⟨c1, i1, k1⟩ := u_known (C := RX1) (T := TX1) (N := 4) (n := 4) hts (fun w h => (cw1 w h).1) (hts _ in_1)
  obtain ⟨c2, i2, k2⟩ := u_known (C := RX2) (T := TX2) (N := 7) (n := 7) hts (fun w h => (cw2 w h).1) (hts _ in_2)
  obtain ⟨c3, i3, k3⟩ := u_known (C := RX3) (T := TX3) (N := 3) (n := 3) hts (fun w h => (cw3 w h).1) (hts _ in_3)
  obtain ⟨c4, i4, k4⟩ := u_known (C := RX4) (T := TX4) (N := 8) (n := 8) hts (fun w h => (cw4 w h).1) (hts _ in_4)
  obtain ⟨c5, i5, k5⟩ := u_known (C := RX5) (T := TX5) (N := 4) (n := 4) hts (fun w h => (cw5 w h).1) (hts _ in_5)
  obtain ⟨c6, i6, k6⟩ := u_known (C := RX6) (T := TX6) (N := 2) (n := 2) hts (fun w h => (cw6 w h).1) (hts _ in_6)
  obtain ⟨c7, i7, k7⟩ := u_known (C := RX7) (T := TX7) (N := 9) (n := 9) hts (fun w h => (cw7 w h).1) (hts _ in_7)
  obtain ⟨c8, i8, k8⟩ := u_known (C := RX8) (T := TX8) (N := 4) (n := 4) hts (fun w h => (cw8 w h).1) (hts _ in_8)
  obtain ⟨c9, i9, k9⟩ := u_known (C := RX9) (T := TX9) (N := 12) (n := 12) hts (fun w h => (cw9 w h).1) (hts _ in_9)
  obtain ⟨c10, i10, k10⟩ := u_known (C := RX10) (T := TX10) (N := 9) (n := 9) hts (fun w h => (cw10 w h).1) (hts _ in_10)
  obtain ⟨c11, i11, k11⟩ := u_known (C := RX11) (T := TX11) (N := 50) (n := 50) hts (fun w h => (cw11 w h).1) (hts _ in_11)
  obtain ⟨dC, dI, hKc⟩ : ∃ (dC : Nat → ClassId) (dI : Nat → Nat → Nat), ∀ (k : Nat) (q : vw_C), vcl[k]? = some q → u_Kn s q.1 q.2.1 q.2.2 (dC k) (dI k) := by
    refine ⟨fun k => match k with | 0 => c0 | 1 => c1 | 2 => c2 | 3 => c3 | 4 => c4 | 5 => c5 | 6 => c6 | 7 => c7 | 8 => c8 | 9 => c9 | 10 => c10 | _ => c11, fun k => match k with | 0 => i0 | 1 => i1 | 2 => i2 | 3 => i3 | 4 => i4 | 5 => i5 | 6 => i6 | 7 => i7 | 8 => i8 | 9 => i9 | 10 => i10 | _ => i11, ?_⟩
    intro k q hq
    match k, hq with
    | 0, hq => cases hq; exact k0
    | 1, hq => cases hq; exact k1
    | 2, hq => cases hq; exact k2
    | 3, hq => cases hq; exact k3
    | 4, hq => cases hq; exact k4
    | 5, hq => cases hq; exact k5
    | 6, hq => cases hq; exact k6
    | 7, hq => cases hq; exact k7
    | 8, hq => cases hq; exact k8
    | 9, hq => cases hq; exact k9
    | 10, hq => cases hq; exact k10
    | 11, hq => cases hq; exact k11
    | k + 12, hq => simp [vcl] at hq
  obtain ⟨a0, ka0, cm0, fa0, fb0, fc0⟩ := Cond.arrayClass_spec (hts _ ac_0)
  obtain ⟨a1, ka1, cm1, fa1, fb1, fc1⟩ := Cond.arrayClass_spec (hts _ ac_1)
  obtain ⟨a2, ka2, cm2, fa2, fb2, fc2⟩ := Cond.arrayClass_spec (hts _ ac_2)
  obtain ⟨cm3, a3, ka3, fd3, -, fb3, fc3, fa3⟩ := Cond.arrayOver_spec (hts _ ao_3)
  obtain ⟨cm4, a4, ka4, fd4, -, fb4, fc4, fa4⟩ := Cond.arrayOver_spec (hts _ ao_4)
  obtain ⟨cm5, a5, ka5, fd5, -, fb5, fc5, fa5⟩ := Cond.arrayOver_spec (hts _ ao_5)
  obtain ⟨t1, e1, T1⟩ := va_Tof (N := 5) (f := fun j => .int (a_who j)) (tm := .static "RulesTried$Reader" "TOP_OF_WHO" "[I") (ty := .int) (by decide) (hfl _ (by decide +kernel)) (va_eqt (hfl (Cond.eq (.length (.static "RulesTried$Reader" "TOP_OF_WHO" "[I")) (.int 5)) (by decide +kernel))) (fun j hj => va_eqt (hfl _ (fl_who j hj))) hA
  obtain ⟨t2, e2, T2⟩ := va_Tof (N := 4) (f := fun j => .int (a_what j)) (tm := .static "RulesTried$Reader" "TOP_OF_WHAT" "[I") (ty := .int) (by decide) (hfl _ (by decide +kernel)) (va_eqt (hfl (Cond.eq (.length (.static "RulesTried$Reader" "TOP_OF_WHAT" "[I")) (.int 4)) (by decide +kernel))) (fun j hj => va_eqt (hfl _ (fl_what j hj))) hA
  have Z1 := va_Zof (hts _ ls_who) (hts _ ii_2) e1 hA
  have Z2 := va_Zof (hts _ ls_what) (hts _ ii_2) e2 hA
  have Z3 := va_Zof (hts _ ls_comp) (hts _ ii_str) (va_eqi (hfl (Cond.eq (.static "java/lang/String" "COMPACT_STRINGS" "Z") (.int 1)) (by decide +kernel))) hA
  have len120 : [w_byt.length].getD 0 0 = 120 := by decide +kernel
  obtain ⟨aK, aV, S1, eS⟩ := vk_Sof (N := 1) (tm := fun _ => .string "RulesTried$Tokens" 85) (len := [w_byt.length]) (byt := [w_byt]) (args := #[Value.ref b]) (s := s)
    (fun i hi => by rw [show i = 0 by omega, len120]; decide) (fun i _ => hfl _ (by decide +kernel)) (fun i _ => hfl _ (by decide +kernel)) (fun i _ => hfl _ (by decide +kernel)) (fun i hi => by rw [show i = 0 by omega, len120]; exact hfl _ (by decide +kernel))
    (fun i hi j hj => by
      have : i = 0 := by omega
      subst this
      rw [len120] at hj
      exact hfl _ (fl_el j hj)) (fun i j hi hj hne => absurd (by omega) hne) hA
  have SR := vk_R.of (hts _ sr_w) (eS 0 (by decide))
  obtain ⟨t5, Z5⟩ : ∃ t5, va_Z "jdk/internal/util/Preconditions" "SIOOBE_FORMATTER" "Ljava/util/function/BiFunction;" .null (fun q : Nat => s.heap.size ≤ q) s s.heap ∨ va_Z "jdk/internal/util/Preconditions" "SIOOBE_FORMATTER" "Ljava/util/function/BiFunction;" (.ref t5) (fun q : Nat => s.heap.size ≤ q) s s.heap := by
    rcases va_Zqof (hts _ ls_si) (hts _ ii_pre) (hfl _ (by decide +kernel)) hA with h | ⟨t, h⟩
    · exact ⟨0, Or.inl h⟩
    · exact ⟨t, Or.inr h⟩
  obtain ⟨g, hg⟩ : ∃ g : GG, g = (l, dC, dI, (fun k => match k with | 0 => a0 | 1 => a1 | 2 => a2 | 3 => a3 | 4 => a4 | _ => a5), s.heap.size, (fun k => match k with | 0 => b | 1 => t1 | 2 => t2 | 3 => aK 0 | 4 => aV 0 | _ => t5), L, xs) := ⟨_, rfl⟩
  have hl0 : g_l g = l := by rw [hg]
  have hb0 : g_b g = s.heap.size := by rw [hg]
  have hRS : RepS g s s.heap := by
    subst hg
    refine ⟨⟨hKc, fun k q hq => ?_⟩, fun w hw hn => ?_, ⟨hX, hbl⟩, T1, T2, Z1, Z2, Z3, SR, ?_, va_AO.of (hts _ ao_3), va_AO.of (hts _ ao_4), va_AO.of (hts _ ao_5), Z5⟩
    · match k, hq with
      | 0, hq => cases hq; exact ⟨fun n z => ⟨fun k h => (by cases h), ka0, fb0, cm0, fc0⟩, fa0⟩
      | 1, hq => cases hq; exact ⟨fun n z => ⟨fun k h => (by cases h), ka1, fb1, cm1, fc1⟩, fa1⟩
      | 2, hq => cases hq; exact ⟨fun n z => ⟨fun k h => (by cases h), ka2, fb2, cm2, fc2⟩, fa2⟩
      | 3, hq => cases hq; exact ⟨fun n z => ⟨fun k h => (by cases h), ka3, fb3, cm3, fc3⟩, ⟨ka3, cm3, fb3, fc3, fd3, fa3⟩⟩
      | 4, hq => cases hq; exact ⟨fun n z => ⟨fun k h => (by cases h), ka4, fb4, cm4, fc4⟩, ⟨ka4, cm4, fb4, fc4, fd4, fa4⟩⟩
      | 5, hq => cases hq; exact ⟨fun n z => ⟨fun k h => (by cases h), ka5, fb5, cm5, fc5⟩, ⟨ka5, cm5, fb5, fc5, fd5, fa5⟩⟩
      | k + 6, hq => simp [tyz] at hq
    · have h0 := hts w (List.mem_append_right _ hw)
      cases w <;> first | (cases hn; done) | exact va_Nw.of rfl h0
    · refine ⟨fun i hi => ?_, fun i j hi hj _ => by omega⟩
      have : i = 0 := by omega
      subst this
      exact S1.1 0 hi
  obtain ⟨N, A', hrun, hc1, hc2⟩ := main_run L xs hL
  unfold f_L_law at hrun
  obtain ⟨hrun, -⟩ := zc_sp hrun
  have hV := wb_L_law (g := g) (n0 := 0) (z0 := 0) N hrun
  have hgL : g_L g = L := by rw [hg]
  have hgx : g_x g = xs := by rw [hg]
  have hRD : RepD g (A00 L xs) s.heap := by
    refine ⟨fun k q h => ?_, ⟨fun i j p q h => ?_, fun k q h => ?_⟩, by rw [hb0]; rfl, fun k hk => ?_, fun k hk => ?_, by simp [A00]⟩
    · have : wz g (A00 L xs) = [] := rfl
      rw [this] at h; simp at h
    · have : wz g (A00 L xs) = [] := rfl
      rw [this] at h; simp at h
    · have : wz g (A00 L xs) = [] := rfl
      rw [this] at h; simp at h
    · have hk : 8 ≤ k := by have : hn (A00 L xs) = 0 := rfl
                            omega
      rw [A00_gc, if_neg (by omega), if_neg (by omega), if_neg (by omega), if_neg (by omega)]
    · have := A00_roc g hk
      rwa [hgL, hgx] at this
  have hl := lv_entry ([.ref b]) (n := 4) (Nat.le_of_ble_eq_true rfl)
  rw [lg_entry_eq]
  have hadr : adr g 0 = b := by rw [hg]; rfl
  have := hV.2 (Nat.zero_le _) (Nat.zero_le _) p e room_1 s m #[Value.ref b] below meth c (lw_Z below #[Value.ref b] s) s.heap [] _
    ⟨hx, hb, hml, hown, fun h => absurd h (by decide +kernel), fun w hw _ => hts w hw, hRS, by rw [hb0]; exact Nat.le_refl _, by decide, by decide, by show hn A' ≤ 0 + 600000; omega, by show hz A' ≤ 0 + 7302250; omega⟩
    (fun H locs lc pc hD hS hd => by
      rw [hl0]
      refine va_forget (fun q hq => by have := hS.2.2 q hq; rw [← hb0]; exact this) ?_
      refine W.widen (k := 600000) (n := 7302250) (by show hn A' - 0 ≤ _; omega) (by show hz A' - 0 ≤ _; omega) ?_
      exact lw_ret hx hb hr hlocks hd)
    hRD va_S.rf ⟨hl.1, hl.2.1, fun i v h => ?_⟩
  · rw [hl0] at this
    exact this
  · match i, h with
    | 0, h => cases h; show _ = some (Slot.val (Value.ref (adr g 0))); rw [hadr]; exact hl.2.2 (0, .ref b) (by simp [lv_args])
    | i + 1, h => simp at h
-- ===== YOUR PART ENDS =====
set_option maxHeartbeats 4000000 in
theorem lw_walk (l : Launch) (b : Addr) (xs : List Int32) : MetFree l x (headSpec (Jvm.Cond.code x code maxLocals ret :: tables_1) room_1) (lw_P b xs) (fun _ _ _ _ _ => True) lw_Q := by
  refine MetFree.of_bodyS (code := code) (maxLocals := maxLocals) (ret := ret) (by decide) ?_ ?_
  · intro args s m h hn
    obtain ⟨meth, c, h1, h2, h3, h4, h5, h6, -, -⟩ := Cond.code_spec hn (atoms_spec (ws := Jvm.Cond.code x code maxLocals ret :: tables_1) h _ List.mem_cons_self)
    exact ⟨meth, c, h1, h2, h3, h4, h5, h6⟩
  · intro p e s m args below meth c s₁ B hml0 hP _
    obtain ⟨rfl, hx, hbd, hgv⟩ := hP
    obtain ⟨scr, harrAt, hlist, hof, hsmall⟩ := hx
    obtain ⟨hcb, hkn, -, -⟩ := State.arrayAt?_spec harrAt
    have hown : s.vm.findClass R_law = some m.cls := findClass_of_methodNamed B.named
    have hts0 : ∀ c ∈ (Jvm.Cond.code x code maxLocals ret :: tables_1), c.before #[Value.ref b] s = true := atoms_spec (ws := Jvm.Cond.code x code maxLocals ret :: tables_1) B.pre
    have hts : ∀ w ∈ lw_tbl, w.before #[Value.ref b] s = true := k2_hts_sels lw_privs (fun w hw => hts0 w (List.mem_cons_of_mem _ hw)) lw_privs_ok
    have hml : c.maxLocals = 4 := B.maxLocals_eq (hts0 _ List.mem_cons_self)
    have X₀ : Stand p l e room_1 s m #[Value.ref b] below meth c s₁ [] 0 0 := Stand.of_body B
    have hh0 : s₁.heap = s.heap := by rw [B.state]; rfl
    have hsz : scr.slots.size = xs.length := by rw [← Array.length_toList, hlist, List.length_map]
    have hval : ∀ j : Nat, j < xs.length → scr.slots[j]? = some (.int (xs.getD j 0)) := fun j hj => by
      rw [← Array.getElem?_toList, hlist]
      simp [hj]
    have hbl : b < s.heap.size := (Array.getElem?_eq_some_iff.mp hcb).1
    have hX : va_X b xs.length (fun j => xs.getD j 0) s s.heap := ⟨scr, hcb, hof, hkn, hsz, hval⟩
    have K : W p l e room_1 s m #[Value.ref b] below meth c s₁.heap [] 0 0 (lw_Z below #[Value.ref b] s) (entryFrame m ([Value.ref b] : List Value).toArray 4) := by
      rw [hh0]
      exact whole_start l hbd ⟨B.exec, B.bytes, B.returns, hml, hown, hts, hX, hbl, B.notSynchronized, hgv⟩
    obtain ⟨t, a1, o, b1, b2, b3⟩ := K s₁ rfl X₀
    exact ⟨t, o, a1, b1, b2, b3⟩
theorem lw_pre_spec {args : Array Value} {s : State} (h : (Jvm.Cond.and given_1 narrow_1).before args s = true) (hr : rest_1_c.before args s = true) : ∃ (b : Addr) (xs : List Int32), lw_P b xs args s := by
  have hs := flat_of_before _ h
  have hq := flat_of_before _ hr
  have hc : (Cond.count 1).before args s = true := hs _ (by decide +kernel)
  have harr : (Cond.arrayOf (.arg 0) .int).before args s = true := hs _ (by decide +kernel)
  have hle : (Cond.le (.length (.arg 0)) (.int 3584)).before args s = true := hs _ (by decide +kernel)
  have hlen : (Cond.isInt (.length (.arg 0))).before args s = true := hq _ (by decide +kernel)
  have hall : (Cond.all (.arg 0) (.isInt (.elem (.arg 0) (.index 0)))).before args s = true := hq _ (by decide +kernel)
  obtain ⟨b, xs, hb, hx⟩ := State.ints_of_pre rfl harr hlen hall
  have hsm : xs.length < 2 ^ 31 := hx.choose_spec.2.2.2
  have hev : (Term.length (.arg 0)).eval args s none [] s = some (.int xs.length.toInt32) := hx.length_eval hb
  have hv := Cond.le_ints hev (show (Term.int 3584).eval args s none [] s = some (.int 3584) from rfl)
  have hd : xs.length.toInt32 ≤ 3584 := by
    simpa [Cond.before, Cond.holds, hv] using hle
  have hN : xs.length ≤ 3584 := (Int32.ofNat_le_ofNat hsm (by decide)).mp (show Int32.ofNat xs.length ≤ Int32.ofNat 3584 from hd)
  exact ⟨b, xs, Cond.one_arg hc (show args[0]? = some (.ref b) from hb), hx, hN, h⟩
theorem lw_comes (l : Launch) : Comes l x (Jvm.Cond.code x code maxLocals ret :: tables_1) room_1 (fun tb e args s => Calls_1 tb e args s ∧ rest_1 tb e args s ∧ Pre_1 tb e args s)
    (fun _ _ args s o t => lw_Q args s o t) := by
  intro p e ha hc hk s m args below hf hfit hheap happ hpre
  obtain ⟨b, xs, hP⟩ := lw_pre_spec hpre.2.2 hpre.2.1
  obtain ⟨k, o, h1, h2, h3, hQ⟩ := lw_walk l b xs p e ha hc hk s m args below hf ((Spec.applies_iff_loose hf).mp happ).1 hP trivial
  exact ⟨k, o, h1, h2, h3, hQ⟩
theorem lw_frame {s t : State} {o : Outcome} {args : Array Value} (h : Framed s o t [] 600000 7302250) :
    Framed s o t (fieldLocs frame_1_writes args s ++ arrayLocs frame_1_arrays args s ++ staticLocs frame_1_statics s) 600000 7302250 := h
theorem lw_limb (L : Cond) (hL : ∀ (args : Array Value) (s t : State), L.after args s (.returned (some (.int 1))) t = true) :
    ArmFor flags0 classFile x code maxLocals ret World_1 tables_1 room_1 Calls_1 rest_1 Pre_1
      (fun tb e a s o t => postC L tb e a s o t ∧ Framed s o t (fieldLocs frame_1_writes a s ++ arrayLocs frame_1_arrays a s ++ staticLocs frame_1_statics s) 600000 7302250) := by
  intro l _ _ _ p e ha hc hk s m args below hf hfit hheap happ hpre
  obtain ⟨k, o, h1, h2, h3, rfl, hF⟩ := lw_comes l p e ha hc hk s m args below hf hfit hheap happ hpre
  exact ⟨k, _, h1, h2, h3, hL args s _, lw_frame hF⟩
theorem i_vc : Claimed_1_1 ∧ Claimed_1_2 := ⟨lw_limb limb_1_1 (fun args s t => by simp [limb_1_1, Cond.after, Cond.holds, Cond.value]), lw_limb limb_1_2 (fun args s t => Cond.after_iff.mpr (by
  first | (rw [show limb_1_2 = Cond.eq .result (.int 1) from rfl, Cond.eq_ints (x := 1) (y := 1) rfl rfl]; simp; done) | (simp [limb_1_2, Cond.value, Term.eval]; done)))⟩
