def b_X4_init (A : LH) (v0 : Option Nat) : Option (LH) :=
  (nI_ A 0 (200 : Int32)).bind fun A1 => (pF A1 v0 4 0 (LR (some (8 + hn A)))).bind fun A3 => (nI_ A3 0 (200 : Int32)).bind fun A5 => (pF A5 v0 4 1 (LR (some (8 + hn A3)))).bind fun A7 => some A7
set_option maxRecDepth 4000 in
theorem wb_X4_init {g : GG} {n0 z0 : Nat} {A : LH} {v0 : Option Nat} {p : LH} (ho : isO A v0 4 = true) (h : b_X4_init A v0 = some p) : V g m_X4_init 1 n0 z0 none p A 0 [some (LR v0)] [] := by
  unfold b_X4_init at h
  refine V.aload_n dX4_init_0 rfl rfl ?_
  refine V.objI ho ml_RX4_3 im_obj co_obj (by decide) (Nat.le_of_ble_eq_true rfl) dX4_init_1 ?_
  refine V.aload_n dX4_init_4 rfl rfl ?_
  refine V.sipush dX4_init_5 ks_200 ?_
  obtain ⟨A1, h2, h⟩ := bnd h
  refine V.newa (ty := .int) h2 rfl rfl rfl (fun _ z => z) (by decide) ac_0 dX4_init_8 ?_
  obtain ⟨A3, h4, h⟩ := bnd h
  refine V.putFF h4 (nrR _ rfl) (ftR _ rfl) rfl rfl rfl CF4 (Nat.le_of_ble_eq_true rfl) fl_RX4_9 dX4_init_10 ?_
  refine V.aload_n dX4_init_13 rfl rfl ?_
  refine V.sipush dX4_init_14 ks_200 ?_
  obtain ⟨A5, h6, h⟩ := bnd h
  refine V.newa (ty := .int) h6 rfl rfl rfl (fun _ z => z) (by decide) ac_0 dX4_init_17 ?_
  obtain ⟨A7, h8, h⟩ := bnd h
  refine V.putFF h8 (nrR _ rfl) (ftR _ rfl) rfl rfl rfl CF4 (Nat.le_of_ble_eq_true rfl) fl_RX4_15 dX4_init_19 ?_
  obtain rfl := Option.some.inj h
  exact V.return_ dX4_init_22
def f_X4_init (A : LH) (v0 : Option Nat) : Option (LH) := if isO A v0 4 = true then b_X4_init A v0 else none
theorem w_X4_init {g : GG} {A : LH} {v0 : Option Nat} {p : LH} (h : f_X4_init A v0 = some p) : Ct g m_X4_init 1 [LR v0] A none p := by
  unfold f_X4_init at h
  obtain ⟨ho, h⟩ := ifN h
  exact ⟨wb_X4_init ho h, trivial⟩
theorem oo_X4_init {A : LH} {v0 : Option Nat} {p : LH} (h : f_X4_init A v0 = some p) : isO A v0 4 = true := by unfold f_X4_init at h; exact (ifN h).1
def b_X4_start (N : Nat) (A : LH) (v0 : Option Nat) (v1 : Option Nat) : Option (LH) :=
  (gI A v1 3 0).bind fun x1 => (pF A v0 4 3 (LI x1)).bind fun A3 => (gR A3 v1 3 1).bind fun x5 => (ln6 A3 x5).bind fun x7 => (pF A3 v0 4 4 (LI x7)).bind fun A9 => (f_X3_letSet N A9 v1).bind fun p11 => (pF A9 v0 4 5 (LI p11)).bind fun A14 => (pF A14 v0 4 2 (LI (0 : Int32))).bind fun A16 => some A16
set_option maxRecDepth 4000 in
theorem wb_X4_start {g : GG} {n0 z0 : Nat} (N : Nat) {A : LH} {v0 : Option Nat} {v1 : Option Nat} {p : LH} (h : b_X4_start N A v0 v1 = some p) : V g m_X4_start 2 n0 z0 none p A 0 [some (LR v0), some (LR v1)] [] := by
  unfold b_X4_start at h
  refine V.aload_n dX4_start_0 rfl rfl ?_
  refine V.aload_n dX4_start_1 rfl rfl ?_
  obtain ⟨x1, h2, h⟩ := bnd h
  refine V.getFN (gI_F h2) CF3 (Nat.le_of_ble_eq_true rfl) fl_RX4_18 dX4_start_2 ?_
  obtain ⟨A3, h4, h⟩ := bnd h
  refine V.putF h4 rfl rfl rfl CF4 (Nat.le_of_ble_eq_true rfl) fl_RX4_24 dX4_start_5 ?_
  refine V.aload_n dX4_start_8 rfl rfl ?_
  refine V.aload_n dX4_start_9 rfl rfl ?_
  obtain ⟨x5, h6, h⟩ := bnd h
  refine V.getFN (gR_F h6) CF3 (Nat.le_of_ble_eq_true rfl) fl_RX4_25 dX4_start_10 ?_
  obtain ⟨x7, h8, h⟩ := bnd h
  refine V.alen (ln6_l h8) (ln6_t h8) dX4_start_13 ?_
  obtain ⟨A9, h10, h⟩ := bnd h
  refine V.putF h10 rfl rfl rfl CF4 (Nat.le_of_ble_eq_true rfl) fl_RX4_29 dX4_start_14 ?_
  refine V.aload_n dX4_start_17 rfl rfl ?_
  refine V.aload_n dX4_start_18 rfl rfl ?_
  obtain ⟨p11, h12, h⟩ := bnd h
  have w13 := w_X3_letSet (g := g) N h12
  refine V.callVi (args := []) (st := [LR v0]) w13.1 (oo_X3_letSet h12) mk_X3_letSet w13.2 vc_3 ml_RX4_32 im_X3_letSet se_X3_letSet rfl (Nat.le_of_ble_eq_true rfl) (by decide) rfl (Nat.le_of_ble_eq_true rfl) dX4_start_19 ?_
  obtain ⟨A14, h15, h⟩ := bnd h
  refine V.putF h15 rfl rfl rfl CF4 (Nat.le_of_ble_eq_true rfl) fl_RX4_36 dX4_start_22 ?_
  refine V.aload_n dX4_start_25 rfl rfl ?_
  refine V.iconst dX4_start_26 ki_0 ?_
  obtain ⟨A16, h17, h⟩ := bnd h
  refine V.putF h17 rfl rfl rfl CF4 (Nat.le_of_ble_eq_true rfl) fl_RX4_39 dX4_start_27 ?_
  obtain rfl := Option.some.inj h
  exact V.return_ dX4_start_30
def f_X4_start (N : Nat) (A : LH) (v0 : Option Nat) (v1 : Option Nat) : Option (LH) := if isO A v0 4 = true then b_X4_start N A v0 v1 else none
theorem w_X4_start {g : GG} (N : Nat) {A : LH} {v0 : Option Nat} {v1 : Option Nat} {p : LH} (h : f_X4_start N A v0 v1 = some p) : Ct g m_X4_start 2 [LR v0, LR v1] A none p := by
  unfold f_X4_start at h
  obtain ⟨ho, h⟩ := ifN h
  exact ⟨wb_X4_start N h, trivial⟩
theorem oo_X4_start {N : Nat} {A : LH} {v0 : Option Nat} {v1 : Option Nat} {p : LH} (h : f_X4_start N A v0 v1 = some p) : isO A v0 4 = true := by unfold f_X4_start at h; exact (ifN h).1
def b_X4_want_44 (N : Nat) (A : LH) (v0 : Option Nat) (v1 : Int32) (v2 : Int32) : Option (LH) :=
  (gI A v0 4 2).bind fun x4 => if (200 : Int32) ≤ x4 then some A else (gR A v0 4 0).bind fun x7 => (gI A v0 4 2).bind fun x9 => (sI A x7 0 x9 v1).bind fun A11 => (gR A11 v0 4 1).bind fun x13 => (gI A11 v0 4 2).bind fun x15 => (sI A11 x13 0 x15 v2).bind fun A17 => (gI A17 v0 4 2).bind fun x19 => (pF A17 v0 4 2 (LI (x19 + (1 : Int32)))).bind fun A21 => some A21
set_option maxRecDepth 4000 in
theorem wb_X4_want_44 {g : GG} {n0 z0 : Nat} (N : Nat) {A : LH} {v0 : Option Nat} {v1 : Int32} {v2 : Int32} {p : LH} (h : b_X4_want_44 N A v0 v1 v2 = some p) : V g m_X4_want 0 n0 z0 none p A 44 [some (LR v0), some (LI v1), some (LI v2)] [] := by
  unfold b_X4_want_44 at h
  refine V.aload_n dX4_want_44 rfl rfl ?_
  obtain ⟨x4, h5, h⟩ := bnd h
  refine V.getF (gI_F h5) CF4 (Nat.le_of_ble_eq_true rfl) fl_RX4_39 dX4_want_45 ?_
  refine V.sipush dX4_want_48 ks_200 ?_
  refine V.icmp_ge (tgt := 84) dX4_want_51 (by decide) (fun c6 => ?_) (fun c6 => ?_)
  · have h := (if_pos c6).symm.trans h
    obtain rfl := Option.some.inj h
    exact V.return_ dX4_want_84
  · have h := (if_neg c6).symm.trans h
    refine V.aload_n dX4_want_54 rfl rfl ?_
    obtain ⟨x7, h8, h⟩ := bnd h
    refine V.getF (gR_F h8) CF4 (Nat.le_of_ble_eq_true rfl) fl_RX4_9 dX4_want_55 ?_
    refine V.aload_n dX4_want_58 rfl rfl ?_
    obtain ⟨x9, h10, h⟩ := bnd h
    refine V.getF (gI_F h10) CF4 (Nat.le_of_ble_eq_true rfl) fl_RX4_39 dX4_want_59 ?_
    refine V.iload_n dX4_want_62 rfl rfl ?_
    obtain ⟨A11, h12, h⟩ := bnd h
    refine V.iast h12 dX4_want_63 ?_
    refine V.aload_n dX4_want_64 rfl rfl ?_
    obtain ⟨x13, h14, h⟩ := bnd h
    refine V.getF (gR_F h14) CF4 (Nat.le_of_ble_eq_true rfl) fl_RX4_15 dX4_want_65 ?_
    refine V.aload_n dX4_want_68 rfl rfl ?_
    obtain ⟨x15, h16, h⟩ := bnd h
    refine V.getF (gI_F h16) CF4 (Nat.le_of_ble_eq_true rfl) fl_RX4_39 dX4_want_69 ?_
    refine V.iload_n dX4_want_72 rfl rfl ?_
    obtain ⟨A17, h18, h⟩ := bnd h
    refine V.iast h18 dX4_want_73 ?_
    refine V.aload_n dX4_want_74 rfl rfl ?_
    refine V.dup dX4_want_75 rfl ?_
    obtain ⟨x19, h20, h⟩ := bnd h
    refine V.getF (gI_F h20) CF4 (Nat.le_of_ble_eq_true rfl) fl_RX4_39 dX4_want_76 ?_
    refine V.iconst dX4_want_79 ki_1 ?_
    refine V.iadd dX4_want_80 ?_
    obtain ⟨A21, h22, h⟩ := bnd h
    refine V.putF h22 rfl rfl rfl CF4 (Nat.le_of_ble_eq_true rfl) fl_RX4_39 dX4_want_81 ?_
    obtain rfl := Option.some.inj h
    exact V.return_ dX4_want_84
def b_X4_want_2 (N : Nat) (k2 : LH → Option Nat → Int32 → Int32 → Int32 → Option (LH)) (A : LH) (v0 : Option Nat) (v1 : Int32) (v2 : Int32) (v3 : Int32) : Option (LH) :=
  (gI A v0 4 2).bind fun x1 => if x1 ≤ v3 then b_X4_want_44 N A v0 v1 v2 else if (200 : Int32) ≤ v3 then b_X4_want_44 N A v0 v1 v2 else (gR A v0 4 0).bind fun x24 => (aI A x24 0 v3).bind fun x26 => if x26 = v1 then (gR A v0 4 1).bind fun x29 => (aI A x29 0 v3).bind fun x31 => if x31 = v2 then some A else k2 A v0 v1 v2 (v3 + (1 : Int32)) else k2 A v0 v1 v2 (v3 + (1 : Int32))
set_option maxRecDepth 4000 in
theorem wb_X4_want_2 {g : GG} {n0 z0 : Nat} (N : Nat) {k2 : LH → Option Nat → Int32 → Int32 → Int32 → Option (LH)} {A : LH} {v0 : Option Nat} {v1 : Int32} {v2 : Int32} {v3 : Int32} {p : LH} (hk2 : ∀ {A : LH} {v0 : Option Nat} {v1 : Int32} {v2 : Int32} {v3 : Int32} {p : LH}, k2 A v0 v1 v2 v3 = some p → V g m_X4_want 0 n0 z0 none p A 2 [some (LR v0), some (LI v1), some (LI v2), some (LI v3)] []) (h : b_X4_want_2 N k2 A v0 v1 v2 v3 = some p) : V g m_X4_want 0 n0 z0 none p A 2 [some (LR v0), some (LI v1), some (LI v2), some (LI v3)] [] := by
  unfold b_X4_want_2 at h
  refine V.iload_n dX4_want_2 rfl rfl ?_
  refine V.aload_n dX4_want_3 rfl rfl ?_
  obtain ⟨x1, h2, h⟩ := bnd h
  refine V.getF (gI_F h2) CF4 (Nat.le_of_ble_eq_true rfl) fl_RX4_39 dX4_want_4 ?_
  refine V.icmp_ge (tgt := 44) dX4_want_7 (by decide) (fun c3 => ?_) (fun c3 => ?_)
  · have h := (if_pos c3).symm.trans h
    refine V.weak [true, true, true] ?_
    exact wb_X4_want_44 N h
  · have h := (if_neg c3).symm.trans h
    refine V.iload_n dX4_want_10 rfl rfl ?_
    refine V.sipush dX4_want_11 ks_200 ?_
    refine V.icmp_ge (tgt := 44) dX4_want_14 (by decide) (fun c23 => ?_) (fun c23 => ?_)
    · have h := (if_pos c23).symm.trans h
      refine V.weak [true, true, true] ?_
      exact wb_X4_want_44 N h
    · have h := (if_neg c23).symm.trans h
      refine V.aload_n dX4_want_17 rfl rfl ?_
      obtain ⟨x24, h25, h⟩ := bnd h
      refine V.getF (gR_F h25) CF4 (Nat.le_of_ble_eq_true rfl) fl_RX4_9 dX4_want_18 ?_
      refine V.iload_n dX4_want_21 rfl rfl ?_
      obtain ⟨x26, h27, h⟩ := bnd h
      refine V.iald h27 dX4_want_22 ?_
      refine V.iload_n dX4_want_23 rfl rfl ?_
      refine V.icmp_ne (tgt := 38) dX4_want_24 (by decide) (fun c28 => ?_) (fun c28 => ?_)
      · have h := (if_neg c28).symm.trans h
        refine V.iinc (ls' := [some (LR v0), some (LI v1), some (LI v2), some (LI (v3 + (1 : Int32)))]) dX4_want_38 rfl ki_1 (by decide) rfl rfl ?_
        refine V.goto (tgt := 2) dX4_want_41 (by decide) ?_
        refine V.weak [true, true, true, true] ?_
        exact hk2 h
      · have h := (if_pos c28).symm.trans h
        refine V.aload_n dX4_want_27 rfl rfl ?_
        obtain ⟨x29, h30, h⟩ := bnd h
        refine V.getF (gR_F h30) CF4 (Nat.le_of_ble_eq_true rfl) fl_RX4_15 dX4_want_28 ?_
        refine V.iload_n dX4_want_31 rfl rfl ?_
        obtain ⟨x31, h32, h⟩ := bnd h
        refine V.iald h32 dX4_want_32 ?_
        refine V.iload_n dX4_want_33 rfl rfl ?_
        refine V.icmp_ne (tgt := 38) dX4_want_34 (by decide) (fun c33 => ?_) (fun c33 => ?_)
        · have h := (if_neg c33).symm.trans h
          refine V.iinc (ls' := [some (LR v0), some (LI v1), some (LI v2), some (LI (v3 + (1 : Int32)))]) dX4_want_38 rfl ki_1 (by decide) rfl rfl ?_
          refine V.goto (tgt := 2) dX4_want_41 (by decide) ?_
          refine V.weak [true, true, true, true] ?_
          exact hk2 h
        · have h := (if_pos c33).symm.trans h
          obtain rfl := Option.some.inj h
          exact V.return_ dX4_want_37
def l_X4_want_2 (N : Nat) : Nat → LH → Option Nat → Int32 → Int32 → Int32 → Option (LH)
  | 0, _, _, _, _, _ => none
  | n + 1, A, v0, v1, v2, v3 => b_X4_want_2 N (l_X4_want_2 N n) A v0 v1 v2 v3
theorem wl_X4_want_2 {g : GG} {n0 z0 : Nat} (N : Nat) : ∀ (n : Nat) {A : LH} {v0 : Option Nat} {v1 : Int32} {v2 : Int32} {v3 : Int32} {p : LH}, l_X4_want_2 N n A v0 v1 v2 v3 = some p → V g m_X4_want 0 n0 z0 none p A 2 [some (LR v0), some (LI v1), some (LI v2), some (LI v3)] []
  | 0, _, _, _, _, _, _, h => nomatch h
  | n + 1, _, _, _, _, _, _, h => wb_X4_want_2 N (wl_X4_want_2 N n) h
def b_X4_want (N : Nat) (A : LH) (v0 : Option Nat) (v1 : Int32) (v2 : Int32) : Option (LH) :=
  l_X4_want_2 N N A v0 v1 v2 (0 : Int32)
set_option maxRecDepth 4000 in
theorem wb_X4_want {g : GG} {n0 z0 : Nat} (N : Nat) {A : LH} {v0 : Option Nat} {v1 : Int32} {v2 : Int32} {p : LH} (h : b_X4_want N A v0 v1 v2 = some p) : V g m_X4_want 0 n0 z0 none p A 0 [some (LR v0), some (LI v1), some (LI v2)] [] := by
  unfold b_X4_want at h
  refine V.iconst dX4_want_0 ki_0 ?_
  refine V.istore_n (ls' := [some (LR v0), some (LI v1), some (LI v2), some (LI (0 : Int32))]) dX4_want_1 rfl (by decide) rfl rfl ?_
  refine V.weak [true, true, true, true] ?_
  exact wl_X4_want_2 N N h
def f_X4_want (N : Nat) (A : LH) (v0 : Option Nat) (v1 : Int32) (v2 : Int32) : Option (LH) := if isO A v0 4 = true then b_X4_want N A v0 v1 v2 else none
theorem w_X4_want {g : GG} (N : Nat) {A : LH} {v0 : Option Nat} {v1 : Int32} {v2 : Int32} {p : LH} (h : f_X4_want N A v0 v1 v2 = some p) : Ct g m_X4_want 0 [LR v0, LI v1, LI v2] A none p := by
  unfold f_X4_want at h
  obtain ⟨ho, h⟩ := ifN h
  exact ⟨wb_X4_want N h, trivial⟩
theorem oo_X4_want {N : Nat} {A : LH} {v0 : Option Nat} {v1 : Int32} {v2 : Int32} {p : LH} (h : f_X4_want N A v0 v1 v2 = some p) : isO A v0 4 = true := by unfold f_X4_want at h; exact (ifN h).1
def b_X4_isLet (A : LH) (v0 : Option Nat) (v1 : Int32) (v2 : Int32) : Option (Int32) :=
  (gI A v0 4 3).bind fun x1 => if x1 = 1 then (f_J6_highestOneBit_0f7a4 v1).bind fun p4 => if (p4 &&& v2) = 0 then some (0 : Int32) else some (1 : Int32) else if x1 = 2 then if v1 = 0 then some (0 : Int32) else if (v1 &&& (v2 ^^^ (-1 : Int32))) = 0 then some (1 : Int32) else some (0 : Int32) else if x1 = 3 then if (v1 &&& v2) = 0 then some (0 : Int32) else some (1 : Int32) else (f_J6_lowestOneBit_0f7a4 v1).bind fun p13 => if (p13 &&& v2) = 0 then some (0 : Int32) else some (1 : Int32)
set_option maxRecDepth 4000 in
theorem wb_X4_isLet {g : GG} {n0 z0 : Nat} {A : LH} {v0 : Option Nat} {v1 : Int32} {v2 : Int32} {p : Int32} (h : b_X4_isLet A v0 v1 v2 = some p) : V g m_X4_isLet 2 n0 z0 (some (LI p)) A A 0 [some (LR v0), some (LI v1), some (LI v2)] [] := by
  unfold b_X4_isLet at h
  refine V.aload_n dX4_isLet_0 rfl rfl ?_
  obtain ⟨x1, h2, h⟩ := bnd h
  refine V.getF (gI_F h2) CF4 (Nat.le_of_ble_eq_true rfl) fl_RX4_24 dX4_isLet_1 ?_
  by_cases c3 : x1 = 1
  · have h := (if_pos c3).symm.trans h
    refine V.tableIn (tgt := 32) (off := 28) dX4_isLet_4 (by rw [c3]; decide) (by rw [c3]; decide) (by rw [c3]; decide) (by decide) ?_
    refine V.iload_n dX4_isLet_32 rfl rfl ?_
    obtain ⟨p4, h5, h⟩ := bnd h
    have w6 := w_J6_highestOneBit_0f7a4 (g := g) (A := A) h5
    refine V.callSi (args := [LI v1]) (st := []) w6.1 mk_J6_highestOneBit_0f7a4 w6.2 ml_RX4_59 sm_J6_highestOneBit_0f7a4 rfl (Nat.le_of_ble_eq_true rfl) (by decide) rfl (Nat.le_of_ble_eq_true rfl) dX4_isLet_33 ?_
    refine V.iload_n dX4_isLet_36 rfl rfl ?_
    refine V.iand dX4_isLet_37 ?_
    refine V.if_eq (tgt := 45) dX4_isLet_38 (by decide) (fun c7 => ?_) (fun c7 => ?_)
    · have h := (if_pos c7).symm.trans h
      refine V.iconst dX4_isLet_45 ki_0 ?_
      obtain rfl := Option.some.inj h
      exact V.ireturn dX4_isLet_46
    · have h := (if_neg c7).symm.trans h
      refine V.iconst dX4_isLet_41 ki_1 ?_
      refine V.goto (tgt := 46) dX4_isLet_42 (by decide) ?_
      obtain rfl := Option.some.inj h
      exact V.ireturn dX4_isLet_46
  have h := (if_neg c3).symm.trans h
  by_cases c8 : x1 = 2
  · have h := (if_pos c8).symm.trans h
    refine V.tableIn (tgt := 47) (off := 43) dX4_isLet_4 (by rw [c8]; decide) (by rw [c8]; decide) (by rw [c8]; decide) (by decide) ?_
    refine V.iload_n dX4_isLet_47 rfl rfl ?_
    refine V.if_eq (tgt := 63) dX4_isLet_48 (by decide) (fun c9 => ?_) (fun c9 => ?_)
    · have h := (if_pos c9).symm.trans h
      refine V.iconst dX4_isLet_63 ki_0 ?_
      obtain rfl := Option.some.inj h
      exact V.ireturn dX4_isLet_64
    · have h := (if_neg c9).symm.trans h
      refine V.iload_n dX4_isLet_51 rfl rfl ?_
      refine V.iload_n dX4_isLet_52 rfl rfl ?_
      refine V.iconst dX4_isLet_53 ki_m1 ?_
      refine V.ixor dX4_isLet_54 ?_
      refine V.iand dX4_isLet_55 ?_
      refine V.if_ne (tgt := 63) dX4_isLet_56 (by decide) (fun c10 => ?_) (fun c10 => ?_)
      · have h := (if_neg c10).symm.trans h
        refine V.iconst dX4_isLet_63 ki_0 ?_
        obtain rfl := Option.some.inj h
        exact V.ireturn dX4_isLet_64
      · have h := (if_pos c10).symm.trans h
        refine V.iconst dX4_isLet_59 ki_1 ?_
        refine V.goto (tgt := 64) dX4_isLet_60 (by decide) ?_
        obtain rfl := Option.some.inj h
        exact V.ireturn dX4_isLet_64
  have h := (if_neg c8).symm.trans h
  by_cases c11 : x1 = 3
  · have h := (if_pos c11).symm.trans h
    refine V.tableIn (tgt := 65) (off := 61) dX4_isLet_4 (by rw [c11]; decide) (by rw [c11]; decide) (by rw [c11]; decide) (by decide) ?_
    refine V.iload_n dX4_isLet_65 rfl rfl ?_
    refine V.iload_n dX4_isLet_66 rfl rfl ?_
    refine V.iand dX4_isLet_67 ?_
    refine V.if_eq (tgt := 75) dX4_isLet_68 (by decide) (fun c12 => ?_) (fun c12 => ?_)
    · have h := (if_pos c12).symm.trans h
      refine V.iconst dX4_isLet_75 ki_0 ?_
      obtain rfl := Option.some.inj h
      exact V.ireturn dX4_isLet_76
    · have h := (if_neg c12).symm.trans h
      refine V.iconst dX4_isLet_71 ki_1 ?_
      refine V.goto (tgt := 76) dX4_isLet_72 (by decide) ?_
      obtain rfl := Option.some.inj h
      exact V.ireturn dX4_isLet_76
  have h := (if_neg c11).symm.trans h
  refine V.tableOut (tgt := 77) dX4_isLet_4 (sw_out (n := 3) [1, 2, 3] (by decide) (List.forall_mem_cons.mpr ⟨c3, List.forall_mem_cons.mpr ⟨c8, List.forall_mem_cons.mpr ⟨c11, fun _ z => nomatch z⟩⟩⟩)) (by decide) ?_
  refine V.iload_n dX4_isLet_77 rfl rfl ?_
  obtain ⟨p13, h14, h⟩ := bnd h
  have w15 := w_J6_lowestOneBit_0f7a4 (g := g) (A := A) h14
  refine V.callSi (args := [LI v1]) (st := []) w15.1 mk_J6_lowestOneBit_0f7a4 w15.2 ml_RX4_65 sm_J6_lowestOneBit_0f7a4 rfl (Nat.le_of_ble_eq_true rfl) (by decide) rfl (Nat.le_of_ble_eq_true rfl) dX4_isLet_78 ?_
  refine V.iload_n dX4_isLet_81 rfl rfl ?_
  refine V.iand dX4_isLet_82 ?_
  refine V.if_eq (tgt := 90) dX4_isLet_83 (by decide) (fun c16 => ?_) (fun c16 => ?_)
  · have h := (if_pos c16).symm.trans h
    refine V.iconst dX4_isLet_90 ki_0 ?_
    obtain rfl := Option.some.inj h
    exact V.ireturn dX4_isLet_91
  · have h := (if_neg c16).symm.trans h
    refine V.iconst dX4_isLet_86 ki_1 ?_
    refine V.goto (tgt := 91) dX4_isLet_87 (by decide) ?_
    obtain rfl := Option.some.inj h
    exact V.ireturn dX4_isLet_91
def f_X4_isLet (A : LH) (v0 : Option Nat) (v1 : Int32) (v2 : Int32) : Option (Int32) := if isO A v0 4 = true then zd (b_X4_isLet A v0 v1 v2) else none
theorem w_X4_isLet {g : GG} {A : LH} {v0 : Option Nat} {v1 : Int32} {v2 : Int32} {p : Int32} (h : f_X4_isLet A v0 v1 v2 = some p) : Ct g m_X4_isLet 2 [LR v0, LI v1, LI v2] A (some (LI p)) A := by
  unfold f_X4_isLet at h
  obtain ⟨ho, h⟩ := ifN h
  obtain ⟨h, hz⟩ := zd_sp h
  exact ⟨wb_X4_isLet h, (RTz hz)⟩
theorem oo_X4_isLet {A : LH} {v0 : Option Nat} {v1 : Int32} {v2 : Int32} {p : Int32} (h : f_X4_isLet A v0 v1 v2 = some p) : isO A v0 4 = true := by unfold f_X4_isLet at h; exact (ifN h).1
def b_X4_allAsMarked_60 (N : Nat) (A : LH) (k12 : Option Nat → Int32 → Int32 → Option (Int32)) (v0 : Option Nat) (v1 : Int32) (v2 : Int32) (s0 : Int32) (s1 : Int32) : Option (Int32) :=
  if s1 = s0 then k12 v0 v1 (v2 + (1 : Int32)) else some (0 : Int32)
set_option maxRecDepth 4000 in
theorem wb_X4_allAsMarked_60 {g : GG} {n0 z0 : Nat} (N : Nat) {k12 : Option Nat → Int32 → Int32 → Option (Int32)} {A : LH} {v0 : Option Nat} {v1 : Int32} {v2 : Int32} {s0 : Int32} {s1 : Int32} {p : Int32} (hk12 : ∀ {v0 : Option Nat} {v1 : Int32} {v2 : Int32} {p : Int32}, k12 v0 v1 v2 = some p → V g m_X4_allAsMarked 3 n0 z0 (some (LI p)) A A 12 [some (LR v0), some (LI v1), some (LI v2)] []) (h : b_X4_allAsMarked_60 N A k12 v0 v1 v2 s0 s1 = some p) : V g m_X4_allAsMarked 3 n0 z0 (some (LI p)) A A 60 [some (LR v0), some (LI v1), some (LI v2)] [LI s0, LI s1] := by
  unfold b_X4_allAsMarked_60 at h
  refine V.icmp_eq (tgt := 65) dX4_allAsMarked_60 (by decide) (fun c23 => ?_) (fun c23 => ?_)
  · have h := (if_pos c23).symm.trans h
    refine V.iinc (ls' := [some (LR v0), some (LI v1), some (LI (v2 + (1 : Int32)))]) dX4_allAsMarked_65 rfl ki_1 (by decide) rfl rfl ?_
    refine V.goto (tgt := 12) dX4_allAsMarked_68 (by decide) ?_
    refine V.weak [true, true, true] ?_
    exact hk12 h
  · have h := (if_neg c23).symm.trans h
    refine V.iconst dX4_allAsMarked_63 ki_0 ?_
    obtain rfl := Option.some.inj h
    exact V.ireturn dX4_allAsMarked_64
def b_X4_allAsMarked_12 (N : Nat) (A : LH) (k12 : Option Nat → Int32 → Int32 → Option (Int32)) (v0 : Option Nat) (v1 : Int32) (v2 : Int32) : Option (Int32) :=
  (gI A v0 4 2).bind fun x5 => if x5 ≤ v2 then some (1 : Int32) else if (200 : Int32) ≤ v2 then some (1 : Int32) else (gR A v0 4 0).bind fun x9 => (aI A x9 0 v2).bind fun x11 => (gI A v0 4 6).bind fun x13 => (f_X4_isLet A v0 (x11 &&& (x13 ^^^ (-1 : Int32))) v1).bind fun p15 => (gR A v0 4 1).bind fun x18 => (aI A x18 0 v2).bind fun x20 => if x20 = (1 : Int32) then b_X4_allAsMarked_60 N A k12 v0 v1 v2 (1 : Int32) p15 else b_X4_allAsMarked_60 N A k12 v0 v1 v2 (0 : Int32) p15
set_option maxRecDepth 4000 in
theorem wb_X4_allAsMarked_12 {g : GG} {n0 z0 : Nat} (N : Nat) {k12 : Option Nat → Int32 → Int32 → Option (Int32)} {A : LH} {v0 : Option Nat} {v1 : Int32} {v2 : Int32} {p : Int32} (hk12 : ∀ {v0 : Option Nat} {v1 : Int32} {v2 : Int32} {p : Int32}, k12 v0 v1 v2 = some p → V g m_X4_allAsMarked 3 n0 z0 (some (LI p)) A A 12 [some (LR v0), some (LI v1), some (LI v2)] []) (h : b_X4_allAsMarked_12 N A k12 v0 v1 v2 = some p) : V g m_X4_allAsMarked 3 n0 z0 (some (LI p)) A A 12 [some (LR v0), some (LI v1), some (LI v2)] [] := by
  unfold b_X4_allAsMarked_12 at h
  refine V.iload_n dX4_allAsMarked_12 rfl rfl ?_
  refine V.aload_n dX4_allAsMarked_13 rfl rfl ?_
  obtain ⟨x5, h6, h⟩ := bnd h
  refine V.getF (gI_F h6) CF4 (Nat.le_of_ble_eq_true rfl) fl_RX4_39 dX4_allAsMarked_14 ?_
  refine V.icmp_ge (tgt := 71) dX4_allAsMarked_17 (by decide) (fun c7 => ?_) (fun c7 => ?_)
  · have h := (if_pos c7).symm.trans h
    refine V.iconst dX4_allAsMarked_71 ki_1 ?_
    obtain rfl := Option.some.inj h
    exact V.ireturn dX4_allAsMarked_72
  · have h := (if_neg c7).symm.trans h
    refine V.iload_n dX4_allAsMarked_20 rfl rfl ?_
    refine V.sipush dX4_allAsMarked_21 ks_200 ?_
    refine V.icmp_ge (tgt := 71) dX4_allAsMarked_24 (by decide) (fun c8 => ?_) (fun c8 => ?_)
    · have h := (if_pos c8).symm.trans h
      refine V.iconst dX4_allAsMarked_71 ki_1 ?_
      obtain rfl := Option.some.inj h
      exact V.ireturn dX4_allAsMarked_72
    · have h := (if_neg c8).symm.trans h
      refine V.aload_n dX4_allAsMarked_27 rfl rfl ?_
      refine V.aload_n dX4_allAsMarked_28 rfl rfl ?_
      obtain ⟨x9, h10, h⟩ := bnd h
      refine V.getF (gR_F h10) CF4 (Nat.le_of_ble_eq_true rfl) fl_RX4_9 dX4_allAsMarked_29 ?_
      refine V.iload_n dX4_allAsMarked_32 rfl rfl ?_
      obtain ⟨x11, h12, h⟩ := bnd h
      refine V.iald h12 dX4_allAsMarked_33 ?_
      refine V.aload_n dX4_allAsMarked_34 rfl rfl ?_
      obtain ⟨x13, h14, h⟩ := bnd h
      refine V.getF (gI_F h14) CF4 (Nat.le_of_ble_eq_true rfl) fl_RX4_42 dX4_allAsMarked_35 ?_
      refine V.iconst dX4_allAsMarked_38 ki_m1 ?_
      refine V.ixor dX4_allAsMarked_39 ?_
      refine V.iand dX4_allAsMarked_40 ?_
      refine V.iload_n dX4_allAsMarked_41 rfl rfl ?_
      obtain ⟨p15, h16, h⟩ := bnd h
      have w17 := w_X4_isLet (g := g) h16
      refine V.callVi (args := [LI (x11 &&& (x13 ^^^ (-1 : Int32))), LI v1]) (st := []) w17.1 (oo_X4_isLet h16) mk_X4_isLet w17.2 vc_4 ml_RX4_56 im_X4_isLet se_X4_isLet rfl (Nat.le_of_ble_eq_true rfl) (by decide) rfl (Nat.le_of_ble_eq_true rfl) dX4_allAsMarked_42 ?_
      refine V.aload_n dX4_allAsMarked_45 rfl rfl ?_
      obtain ⟨x18, h19, h⟩ := bnd h
      refine V.getF (gR_F h19) CF4 (Nat.le_of_ble_eq_true rfl) fl_RX4_15 dX4_allAsMarked_46 ?_
      refine V.iload_n dX4_allAsMarked_49 rfl rfl ?_
      obtain ⟨x20, h21, h⟩ := bnd h
      refine V.iald h21 dX4_allAsMarked_50 ?_
      refine V.iconst dX4_allAsMarked_51 ki_1 ?_
      refine V.icmp_ne (tgt := 59) dX4_allAsMarked_52 (by decide) (fun c22 => ?_) (fun c22 => ?_)
      · have h := (if_neg c22).symm.trans h
        refine V.iconst dX4_allAsMarked_59 ki_0 ?_
        refine V.weak [true, true, true] ?_
        exact wb_X4_allAsMarked_60 N hk12 h
      · have h := (if_pos c22).symm.trans h
        refine V.iconst dX4_allAsMarked_55 ki_1 ?_
        refine V.goto (tgt := 60) dX4_allAsMarked_56 (by decide) ?_
        refine V.weak [true, true, true] ?_
        exact wb_X4_allAsMarked_60 N hk12 h
def l_X4_allAsMarked_12 (N : Nat) (A : LH) : Nat → Option Nat → Int32 → Int32 → Option (Int32)
  | 0, _, _, _ => none
  | n + 1, v0, v1, v2 => b_X4_allAsMarked_12 N A (l_X4_allAsMarked_12 N A n) v0 v1 v2
theorem wl_X4_allAsMarked_12 {g : GG} {n0 z0 : Nat} (N : Nat) {A : LH} : ∀ (n : Nat) {v0 : Option Nat} {v1 : Int32} {v2 : Int32} {p : Int32}, l_X4_allAsMarked_12 N A n v0 v1 v2 = some p → V g m_X4_allAsMarked 3 n0 z0 (some (LI p)) A A 12 [some (LR v0), some (LI v1), some (LI v2)] []
  | 0, _, _, _, _, h => nomatch h
  | n + 1, _, _, _, _, h => wb_X4_allAsMarked_12 N (wl_X4_allAsMarked_12 N n) h
def b_X4_allAsMarked (N : Nat) (A : LH) (v0 : Option Nat) : Option (Int32) :=
  (gI A v0 4 5).bind fun x1 => (gI A v0 4 7).bind fun x3 => l_X4_allAsMarked_12 N A N v0 (x1 ^^^ x3) (0 : Int32)
set_option maxRecDepth 4000 in
theorem wb_X4_allAsMarked {g : GG} {n0 z0 : Nat} (N : Nat) {A : LH} {v0 : Option Nat} {p : Int32} (h : b_X4_allAsMarked N A v0 = some p) : V g m_X4_allAsMarked 3 n0 z0 (some (LI p)) A A 0 [some (LR v0)] [] := by
  unfold b_X4_allAsMarked at h
  refine V.aload_n dX4_allAsMarked_0 rfl rfl ?_
  obtain ⟨x1, h2, h⟩ := bnd h
  refine V.getF (gI_F h2) CF4 (Nat.le_of_ble_eq_true rfl) fl_RX4_36 dX4_allAsMarked_1 ?_
  refine V.aload_n dX4_allAsMarked_4 rfl rfl ?_
  obtain ⟨x3, h4, h⟩ := bnd h
  refine V.getF (gI_F h4) CF4 (Nat.le_of_ble_eq_true rfl) fl_RX4_45 dX4_allAsMarked_5 ?_
  refine V.ixor dX4_allAsMarked_8 ?_
  refine V.istore_n (ls' := [some (LR v0), some (LI (x1 ^^^ x3))]) dX4_allAsMarked_9 rfl (by decide) rfl rfl ?_
  refine V.iconst dX4_allAsMarked_10 ki_0 ?_
  refine V.istore_n (ls' := [some (LR v0), some (LI (x1 ^^^ x3)), some (LI (0 : Int32))]) dX4_allAsMarked_11 rfl (by decide) rfl rfl ?_
  refine V.weak [true, true, true] ?_
  exact wl_X4_allAsMarked_12 N N h
def f_X4_allAsMarked (N : Nat) (A : LH) (v0 : Option Nat) : Option (Int32) := if isO A v0 4 = true then zd (b_X4_allAsMarked N A v0) else none
theorem w_X4_allAsMarked {g : GG} (N : Nat) {A : LH} {v0 : Option Nat} {p : Int32} (h : f_X4_allAsMarked N A v0 = some p) : Ct g m_X4_allAsMarked 3 [LR v0] A (some (LI p)) A := by
  unfold f_X4_allAsMarked at h
  obtain ⟨ho, h⟩ := ifN h
  obtain ⟨h, hz⟩ := zd_sp h
  exact ⟨wb_X4_allAsMarked N h, (RTz hz)⟩
theorem oo_X4_allAsMarked {N : Nat} {A : LH} {v0 : Option Nat} {p : Int32} (h : f_X4_allAsMarked N A v0 = some p) : isO A v0 4 = true := by unfold f_X4_allAsMarked at h; exact (ifN h).1
def b_X4_finds_11 (N : Nat) (kE : LH → Option Nat → Int32 → Int32 → Option (Int32 × LH)) (k11 : LH → Option Nat → Int32 → Int32 → Option (Int32 × LH)) (A : LH) (v0 : Option Nat) (v1 : Int32) (v3 : Int32) : Option (Int32 × LH) :=
  (gI A v0 4 4).bind fun x2 => if x2 ≤ v3 then some ((0 : Int32), A) else (gI A v0 4 6).bind fun x5 => (pF A v0 4 6 (LI (x5 ||| ((1 : Int32) <<< (v3 &&& 31))))).bind fun A7 => (kE A7 v0 (v1 - (1 : Int32)) (v3 + (1 : Int32))).bind fun p9 => if p9.1 = 0 then (gI p9.2 v0 4 6).bind fun x13 => (pF p9.2 v0 4 6 (LI (x13 &&& (((1 : Int32) <<< (v3 &&& 31)) ^^^ (-1 : Int32))))).bind fun A15 => (gI A15 v0 4 7).bind fun x17 => (pF A15 v0 4 7 (LI (x17 ||| ((1 : Int32) <<< (v3 &&& 31))))).bind fun A19 => (kE A19 v0 (v1 - (1 : Int32)) (v3 + (1 : Int32))).bind fun p21 => if p21.1 = 0 then (gI p21.2 v0 4 7).bind fun x25 => (pF p21.2 v0 4 7 (LI (x25 &&& (((1 : Int32) <<< (v3 &&& 31)) ^^^ (-1 : Int32))))).bind fun A27 => k11 A27 v0 v1 (v3 + (1 : Int32)) else some ((1 : Int32), p21.2) else some ((1 : Int32), p9.2)
set_option maxRecDepth 4000 in
theorem wb_X4_finds_11 {g : GG} {n0 z0 : Nat} (N : Nat) {kE : LH → Option Nat → Int32 → Int32 → Option (Int32 × LH)} {dR : Nat} (hEE : ∀ {B : LH} {x0 : Option Nat} {x1 : Int32} {x2 : Int32} {q : Int32 × LH}, kE B x0 x1 x2 = some q → Ct g m_X4_finds dR [LR x0, LI x1, LI x2] B (some (LI q.1)) q.2 ∧ isO B x0 4 = true) {k11 : LH → Option Nat → Int32 → Int32 → Option (Int32 × LH)} {A : LH} {v0 : Option Nat} {v1 : Int32} {v3 : Int32} {p : Int32 × LH} (hk11 : ∀ {A : LH} {v0 : Option Nat} {v1 : Int32} {v3 : Int32} {p : Int32 × LH}, k11 A v0 v1 v3 = some p → V g m_X4_finds (dR + 4) n0 z0 (some (LI p.1)) p.2 A 11 [some (LR v0), some (LI v1), none, some (LI v3)] []) (h : b_X4_finds_11 N kE k11 A v0 v1 v3 = some p) : V g m_X4_finds (dR + 4) n0 z0 (some (LI p.1)) p.2 A 11 [some (LR v0), some (LI v1), none, some (LI v3)] [] := by
  unfold b_X4_finds_11 at h
  refine V.iload_n dX4_finds_11 rfl rfl ?_
  refine V.aload_n dX4_finds_12 rfl rfl ?_
  obtain ⟨x2, h3, h⟩ := bnd h
  refine V.getF (gI_F h3) CF4 (Nat.le_of_ble_eq_true rfl) fl_RX4_29 dX4_finds_13 ?_
  refine V.icmp_ge (tgt := 108) dX4_finds_16 (by decide) (fun c4 => ?_) (fun c4 => ?_)
  · have h := (if_pos c4).symm.trans h
    refine V.iconst dX4_finds_108 ki_0 ?_
    obtain rfl := Option.some.inj h
    exact V.ireturn dX4_finds_109
  · have h := (if_neg c4).symm.trans h
    refine V.iconst dX4_finds_19 ki_1 ?_
    refine V.iload_n dX4_finds_20 rfl rfl ?_
    refine V.ishl dX4_finds_21 ?_
    refine V.istore (ls' := [some (LR v0), some (LI v1), none, some (LI v3), some (LI ((1 : Int32) <<< (v3 &&& 31)))]) dX4_finds_22 (by decide) rfl rfl ?_
    refine V.aload_n dX4_finds_24 rfl rfl ?_
    refine V.dup dX4_finds_25 rfl ?_
    obtain ⟨x5, h6, h⟩ := bnd h
    refine V.getF (gI_F h6) CF4 (Nat.le_of_ble_eq_true rfl) fl_RX4_42 dX4_finds_26 ?_
    refine V.iload dX4_finds_29 rfl ?_
    refine V.ior dX4_finds_31 ?_
    obtain ⟨A7, h8, h⟩ := bnd h
    refine V.putF h8 rfl rfl rfl CF4 (Nat.le_of_ble_eq_true rfl) fl_RX4_42 dX4_finds_32 ?_
    refine V.aload_n dX4_finds_35 rfl rfl ?_
    refine V.iload_n dX4_finds_36 rfl rfl ?_
    refine V.iconst dX4_finds_37 ki_1 ?_
    refine V.isub dX4_finds_38 ?_
    refine V.iload_n dX4_finds_39 rfl rfl ?_
    refine V.iconst dX4_finds_40 ki_1 ?_
    refine V.iadd dX4_finds_41 ?_
    obtain ⟨p9, h10, h⟩ := bnd h
    obtain ⟨w11, ow11⟩ := hEE h10
    refine V.callVi (args := [LI (v1 - (1 : Int32)), LI (v3 + (1 : Int32))]) (st := []) w11.1 ow11 mk_X4_finds w11.2 vc_4 ml_RX4_48 im_X4_finds se_X4_finds rfl (Nat.le_of_ble_eq_true rfl) (by omega) rfl (Nat.le_of_ble_eq_true rfl) dX4_finds_42 ?_
    refine V.if_eq (tgt := 50) dX4_finds_45 (by decide) (fun c12 => ?_) (fun c12 => ?_)
    · have h := (if_pos c12).symm.trans h
      refine V.aload_n dX4_finds_50 rfl rfl ?_
      refine V.dup dX4_finds_51 rfl ?_
      obtain ⟨x13, h14, h⟩ := bnd h
      refine V.getF (gI_F h14) CF4 (Nat.le_of_ble_eq_true rfl) fl_RX4_42 dX4_finds_52 ?_
      refine V.iload dX4_finds_55 rfl ?_
      refine V.iconst dX4_finds_57 ki_m1 ?_
      refine V.ixor dX4_finds_58 ?_
      refine V.iand dX4_finds_59 ?_
      obtain ⟨A15, h16, h⟩ := bnd h
      refine V.putF h16 rfl rfl rfl CF4 (Nat.le_of_ble_eq_true rfl) fl_RX4_42 dX4_finds_60 ?_
      refine V.aload_n dX4_finds_63 rfl rfl ?_
      refine V.dup dX4_finds_64 rfl ?_
      obtain ⟨x17, h18, h⟩ := bnd h
      refine V.getF (gI_F h18) CF4 (Nat.le_of_ble_eq_true rfl) fl_RX4_45 dX4_finds_65 ?_
      refine V.iload dX4_finds_68 rfl ?_
      refine V.ior dX4_finds_70 ?_
      obtain ⟨A19, h20, h⟩ := bnd h
      refine V.putF h20 rfl rfl rfl CF4 (Nat.le_of_ble_eq_true rfl) fl_RX4_45 dX4_finds_71 ?_
      refine V.aload_n dX4_finds_74 rfl rfl ?_
      refine V.iload_n dX4_finds_75 rfl rfl ?_
      refine V.iconst dX4_finds_76 ki_1 ?_
      refine V.isub dX4_finds_77 ?_
      refine V.iload_n dX4_finds_78 rfl rfl ?_
      refine V.iconst dX4_finds_79 ki_1 ?_
      refine V.iadd dX4_finds_80 ?_
      obtain ⟨p21, h22, h⟩ := bnd h
      obtain ⟨w23, ow23⟩ := hEE h22
      refine V.callVi (args := [LI (v1 - (1 : Int32)), LI (v3 + (1 : Int32))]) (st := []) w23.1 ow23 mk_X4_finds w23.2 vc_4 ml_RX4_48 im_X4_finds se_X4_finds rfl (Nat.le_of_ble_eq_true rfl) (by omega) rfl (Nat.le_of_ble_eq_true rfl) dX4_finds_81 ?_
      refine V.if_eq (tgt := 89) dX4_finds_84 (by decide) (fun c24 => ?_) (fun c24 => ?_)
      · have h := (if_pos c24).symm.trans h
        refine V.aload_n dX4_finds_89 rfl rfl ?_
        refine V.dup dX4_finds_90 rfl ?_
        obtain ⟨x25, h26, h⟩ := bnd h
        refine V.getF (gI_F h26) CF4 (Nat.le_of_ble_eq_true rfl) fl_RX4_45 dX4_finds_91 ?_
        refine V.iload dX4_finds_94 rfl ?_
        refine V.iconst dX4_finds_96 ki_m1 ?_
        refine V.ixor dX4_finds_97 ?_
        refine V.iand dX4_finds_98 ?_
        obtain ⟨A27, h28, h⟩ := bnd h
        refine V.putF h28 rfl rfl rfl CF4 (Nat.le_of_ble_eq_true rfl) fl_RX4_45 dX4_finds_99 ?_
        refine V.iinc (ls' := [some (LR v0), some (LI v1), none, some (LI (v3 + (1 : Int32))), some (LI ((1 : Int32) <<< (v3 &&& 31)))]) dX4_finds_102 rfl ki_1 (by decide) rfl rfl ?_
        refine V.goto (tgt := 11) dX4_finds_105 (by decide) ?_
        refine V.weak [true, true, false, true] ?_
        exact hk11 h
      · have h := (if_neg c24).symm.trans h
        refine V.iconst dX4_finds_87 ki_1 ?_
        obtain rfl := Option.some.inj h
        exact V.ireturn dX4_finds_88
    · have h := (if_neg c12).symm.trans h
      refine V.iconst dX4_finds_48 ki_1 ?_
      obtain rfl := Option.some.inj h
      exact V.ireturn dX4_finds_49
def l_X4_finds_11 (N : Nat) (kE : LH → Option Nat → Int32 → Int32 → Option (Int32 × LH)) : Nat → LH → Option Nat → Int32 → Int32 → Option (Int32 × LH)
  | 0, _, _, _, _ => none
  | n + 1, A, v0, v1, v3 => b_X4_finds_11 N kE (l_X4_finds_11 N kE n) A v0 v1 v3
theorem wl_X4_finds_11 {g : GG} {n0 z0 : Nat} (N : Nat) {kE : LH → Option Nat → Int32 → Int32 → Option (Int32 × LH)} {dR : Nat} (hEE : ∀ {B : LH} {x0 : Option Nat} {x1 : Int32} {x2 : Int32} {q : Int32 × LH}, kE B x0 x1 x2 = some q → Ct g m_X4_finds dR [LR x0, LI x1, LI x2] B (some (LI q.1)) q.2 ∧ isO B x0 4 = true) : ∀ (n : Nat) {A : LH} {v0 : Option Nat} {v1 : Int32} {v3 : Int32} {p : Int32 × LH}, l_X4_finds_11 N kE n A v0 v1 v3 = some p → V g m_X4_finds (dR + 4) n0 z0 (some (LI p.1)) p.2 A 11 [some (LR v0), some (LI v1), none, some (LI v3)] []
  | 0, _, _, _, _, _, h => nomatch h
  | n + 1, _, _, _, _, _, h => wb_X4_finds_11 N hEE (wl_X4_finds_11 N hEE n) h
def b_X4_finds (N : Nat) (kE : LH → Option Nat → Int32 → Int32 → Option (Int32 × LH)) (A : LH) (v0 : Option Nat) (v1 : Int32) (v2 : Int32) : Option (Int32 × LH) :=
  if 0 < v1 then l_X4_finds_11 N kE N A v0 v1 v2 else (f_X4_allAsMarked N A v0).bind fun p29 => some (p29, A)
set_option maxRecDepth 4000 in
theorem wb_X4_finds {g : GG} {n0 z0 : Nat} (N : Nat) {kE : LH → Option Nat → Int32 → Int32 → Option (Int32 × LH)} {dR : Nat} (hEE : ∀ {B : LH} {x0 : Option Nat} {x1 : Int32} {x2 : Int32} {q : Int32 × LH}, kE B x0 x1 x2 = some q → Ct g m_X4_finds dR [LR x0, LI x1, LI x2] B (some (LI q.1)) q.2 ∧ isO B x0 4 = true) {A : LH} {v0 : Option Nat} {v1 : Int32} {v2 : Int32} {p : Int32 × LH} (h : b_X4_finds N kE A v0 v1 v2 = some p) : V g m_X4_finds (dR + 4) n0 z0 (some (LI p.1)) p.2 A 0 [some (LR v0), some (LI v1), some (LI v2)] [] := by
  unfold b_X4_finds at h
  refine V.iload_n dX4_finds_0 rfl rfl ?_
  refine V.if_gt (tgt := 9) dX4_finds_1 (by decide) (fun c1 => ?_) (fun c1 => ?_)
  · have h := (if_pos c1).symm.trans h
    refine V.iload_n dX4_finds_9 rfl rfl ?_
    refine V.istore_n (ls' := [some (LR v0), some (LI v1), some (LI v2), some (LI v2)]) dX4_finds_10 rfl (by decide) rfl rfl ?_
    refine V.weak [true, true, false, true] ?_
    exact wl_X4_finds_11 N hEE N h
  · have h := (if_neg c1).symm.trans h
    refine V.aload_n dX4_finds_4 rfl rfl ?_
    obtain ⟨p29, h30, h⟩ := bnd h
    have w31 := w_X4_allAsMarked (g := g) N h30
    refine V.callVi (args := []) (st := []) w31.1 (oo_X4_allAsMarked h30) mk_X4_allAsMarked w31.2 vc_4 ml_RX4_52 im_X4_allAsMarked se_X4_allAsMarked rfl (Nat.le_of_ble_eq_true rfl) (by omega) rfl (Nat.le_of_ble_eq_true rfl) dX4_finds_5 ?_
    obtain rfl := Option.some.inj h
    exact V.ireturn dX4_finds_8
def f_X4_finds (N : Nat) (kE : LH → Option Nat → Int32 → Int32 → Option (Int32 × LH)) (A : LH) (v0 : Option Nat) (v1 : Int32) (v2 : Int32) : Option (Int32 × LH) := if isO A v0 4 = true then zc (b_X4_finds N kE A v0 v1 v2) else none
theorem w_X4_finds {g : GG} (N : Nat) {kE : LH → Option Nat → Int32 → Int32 → Option (Int32 × LH)} {dR : Nat} (hEE : ∀ {B : LH} {x0 : Option Nat} {x1 : Int32} {x2 : Int32} {q : Int32 × LH}, kE B x0 x1 x2 = some q → Ct g m_X4_finds dR [LR x0, LI x1, LI x2] B (some (LI q.1)) q.2 ∧ isO B x0 4 = true) {A : LH} {v0 : Option Nat} {v1 : Int32} {v2 : Int32} {p : Int32 × LH} (h : f_X4_finds N kE A v0 v1 v2 = some p) : Ct g m_X4_finds (dR + 4) [LR v0, LI v1, LI v2] A (some (LI p.1)) p.2 := by
  unfold f_X4_finds at h
  obtain ⟨ho, h⟩ := ifN h
  obtain ⟨h, hz⟩ := zc_sp h
  exact ⟨wb_X4_finds N hEE h, (RTz hz)⟩
theorem oo_X4_finds {N : Nat} {kE : LH → Option Nat → Int32 → Int32 → Option (Int32 × LH)} {A : LH} {v0 : Option Nat} {v1 : Int32} {v2 : Int32} {p : Int32 × LH} (h : f_X4_finds N kE A v0 v1 v2 = some p) : isO A v0 4 = true := by unfold f_X4_finds at h; exact (ifN h).1
def F_X4_finds (N : Nat) : Nat → LH → Option Nat → Int32 → Int32 → Option (Int32 × LH)
  | 0, _, _, _, _ => none
  | n + 1, A, v0, v1, v2 => f_X4_finds N (F_X4_finds N n) A v0 v1 v2
theorem w_F_X4_finds {g : GG} (N : Nat) : ∀ (n : Nat) {A : LH} {v0 : Option Nat} {v1 : Int32} {v2 : Int32} {p : Int32 × LH}, F_X4_finds N n A v0 v1 v2 = some p → Ct g m_X4_finds (4 * n) [LR v0, LI v1, LI v2] A (some (LI p.1)) p.2 ∧ isO A v0 4 = true
  | 0, _, _, _, _, _, h => nomatch h
  | n + 1, _, _, _, _, _, h => ⟨w_X4_finds N (w_F_X4_finds N n) h, oo_X4_finds h⟩
def b_X4_fewest_2 (N : Nat) (k2 : LH → Option Nat → Int32 → Option (Int32 × LH)) (A : LH) (v0 : Option Nat) (v1 : Int32) : Option (Int32 × LH) :=
  if (3 : Int32) < v1 then some ((-1 : Int32), A) else (pF A v0 4 6 (LI (0 : Int32))).bind fun A2 => (pF A2 v0 4 7 (LI (0 : Int32))).bind fun A4 => (F_X4_finds N 8 A4 v0 v1 (0 : Int32)).bind fun p6 => if p6.1 = 0 then k2 p6.2 v0 (v1 + (1 : Int32)) else some (v1, p6.2)
set_option maxRecDepth 4000 in
theorem wb_X4_fewest_2 {g : GG} {n0 z0 : Nat} (N : Nat) {k2 : LH → Option Nat → Int32 → Option (Int32 × LH)} {A : LH} {v0 : Option Nat} {v1 : Int32} {p : Int32 × LH} (hk2 : ∀ {A : LH} {v0 : Option Nat} {v1 : Int32} {p : Int32 × LH}, k2 A v0 v1 = some p → V g m_X4_fewest 33 n0 z0 (some (LI p.1)) p.2 A 2 [some (LR v0), some (LI v1)] []) (h : b_X4_fewest_2 N k2 A v0 v1 = some p) : V g m_X4_fewest 33 n0 z0 (some (LI p.1)) p.2 A 2 [some (LR v0), some (LI v1)] [] := by
  unfold b_X4_fewest_2 at h
  refine V.iload_n dX4_fewest_2 rfl rfl ?_
  refine V.iconst dX4_fewest_3 ki_3 ?_
  refine V.icmp_gt (tgt := 34) dX4_fewest_4 (by decide) (fun c1 => ?_) (fun c1 => ?_)
  · have h := (if_pos c1).symm.trans h
    refine V.iconst dX4_fewest_34 ki_m1 ?_
    obtain rfl := Option.some.inj h
    exact V.ireturn dX4_fewest_35
  · have h := (if_neg c1).symm.trans h
    refine V.aload_n dX4_fewest_7 rfl rfl ?_
    refine V.iconst dX4_fewest_8 ki_0 ?_
    obtain ⟨A2, h3, h⟩ := bnd h
    refine V.putF h3 rfl rfl rfl CF4 (Nat.le_of_ble_eq_true rfl) fl_RX4_42 dX4_fewest_9 ?_
    refine V.aload_n dX4_fewest_12 rfl rfl ?_
    refine V.iconst dX4_fewest_13 ki_0 ?_
    obtain ⟨A4, h5, h⟩ := bnd h
    refine V.putF h5 rfl rfl rfl CF4 (Nat.le_of_ble_eq_true rfl) fl_RX4_45 dX4_fewest_14 ?_
    refine V.aload_n dX4_fewest_17 rfl rfl ?_
    refine V.iload_n dX4_fewest_18 rfl rfl ?_
    refine V.iconst dX4_fewest_19 ki_0 ?_
    obtain ⟨p6, h7, h⟩ := bnd h
    obtain ⟨w8, ow8⟩ := w_F_X4_finds (g := g) N 8 h7
    refine V.callVi (args := [LI v1, LI (0 : Int32)]) (st := []) w8.1 ow8 mk_X4_finds w8.2 vc_4 ml_RX4_48 im_X4_finds se_X4_finds rfl (Nat.le_of_ble_eq_true rfl) (by decide) rfl (Nat.le_of_ble_eq_true rfl) dX4_fewest_20 ?_
    refine V.if_eq (tgt := 28) dX4_fewest_23 (by decide) (fun c9 => ?_) (fun c9 => ?_)
    · have h := (if_pos c9).symm.trans h
      refine V.iinc (ls' := [some (LR v0), some (LI (v1 + (1 : Int32)))]) dX4_fewest_28 rfl ki_1 (by decide) rfl rfl ?_
      refine V.goto (tgt := 2) dX4_fewest_31 (by decide) ?_
      refine V.weak [true, true] ?_
      exact hk2 h
    · have h := (if_neg c9).symm.trans h
      refine V.iload_n dX4_fewest_26 rfl rfl ?_
      obtain rfl := Option.some.inj h
      exact V.ireturn dX4_fewest_27
def l_X4_fewest_2 (N : Nat) : Nat → LH → Option Nat → Int32 → Option (Int32 × LH)
  | 0, _, _, _ => none
  | n + 1, A, v0, v1 => b_X4_fewest_2 N (l_X4_fewest_2 N n) A v0 v1
theorem wl_X4_fewest_2 {g : GG} {n0 z0 : Nat} (N : Nat) : ∀ (n : Nat) {A : LH} {v0 : Option Nat} {v1 : Int32} {p : Int32 × LH}, l_X4_fewest_2 N n A v0 v1 = some p → V g m_X4_fewest 33 n0 z0 (some (LI p.1)) p.2 A 2 [some (LR v0), some (LI v1)] []
  | 0, _, _, _, _, h => nomatch h
  | n + 1, _, _, _, _, h => wb_X4_fewest_2 N (wl_X4_fewest_2 N n) h
def b_X4_fewest (N : Nat) (A : LH) (v0 : Option Nat) : Option (Int32 × LH) :=
  l_X4_fewest_2 N N A v0 (0 : Int32)
set_option maxRecDepth 4000 in
theorem wb_X4_fewest {g : GG} {n0 z0 : Nat} (N : Nat) {A : LH} {v0 : Option Nat} {p : Int32 × LH} (h : b_X4_fewest N A v0 = some p) : V g m_X4_fewest 33 n0 z0 (some (LI p.1)) p.2 A 0 [some (LR v0)] [] := by
  unfold b_X4_fewest at h
  refine V.iconst dX4_fewest_0 ki_0 ?_
  refine V.istore_n (ls' := [some (LR v0), some (LI (0 : Int32))]) dX4_fewest_1 rfl (by decide) rfl rfl ?_
  refine V.weak [true, true] ?_
  exact wl_X4_fewest_2 N N h
def f_X4_fewest (N : Nat) (A : LH) (v0 : Option Nat) : Option (Int32 × LH) := if isO A v0 4 = true then b_X4_fewest N A v0 else none
theorem w_X4_fewest {g : GG} (N : Nat) {A : LH} {v0 : Option Nat} {p : Int32 × LH} (h : f_X4_fewest N A v0 = some p) : Ct g m_X4_fewest 33 [LR v0] A (some (LI p.1)) p.2 := by
  unfold f_X4_fewest at h
  obtain ⟨ho, h⟩ := ifN h
  exact ⟨wb_X4_fewest N h, rfl⟩
theorem oo_X4_fewest {N : Nat} {A : LH} {v0 : Option Nat} {p : Int32 × LH} (h : f_X4_fewest N A v0 = some p) : isO A v0 4 = true := by unfold f_X4_fewest at h; exact (ifN h).1
def b_X8_init_70 (N : Nat) (k70 : LH → Option Nat → Option Nat → Int32 → Option (LH)) (A : LH) (v0 : Option Nat) (v1 : Option Nat) (v2 : Int32) : Option (LH) :=
  if (4 : Int32) ≤ v2 then some A else (gR A v0 8 3).bind fun x26 => (sR A x26 4 3 v2 v1).bind fun A28 => k70 A28 v0 v1 (v2 + (1 : Int32))
set_option maxRecDepth 4000 in
theorem wb_X8_init_70 {g : GG} {n0 z0 : Nat} (N : Nat) {k70 : LH → Option Nat → Option Nat → Int32 → Option (LH)} {A : LH} {v0 : Option Nat} {v1 : Option Nat} {v2 : Int32} {p : LH} (hk70 : ∀ {A : LH} {v0 : Option Nat} {v1 : Option Nat} {v2 : Int32} {p : LH}, k70 A v0 v1 v2 = some p → V g m_X8_init 4 n0 z0 none p A 70 [some (LR v0), some (LR v1), some (LI v2)] []) (h : b_X8_init_70 N k70 A v0 v1 v2 = some p) : V g m_X8_init 4 n0 z0 none p A 70 [some (LR v0), some (LR v1), some (LI v2)] [] := by
  unfold b_X8_init_70 at h
  refine V.iload_n dX8_init_70 rfl rfl ?_
  refine V.iconst dX8_init_71 ki_4 ?_
  refine V.icmp_ge (tgt := 88) dX8_init_72 (by decide) (fun c25 => ?_) (fun c25 => ?_)
  · have h := (if_pos c25).symm.trans h
    obtain rfl := Option.some.inj h
    exact V.return_ dX8_init_88
  · have h := (if_neg c25).symm.trans h
    refine V.aload_n dX8_init_75 rfl rfl ?_
    obtain ⟨x26, h27, h⟩ := bnd h
    refine V.getF (gR_F h27) CF8 (Nat.le_of_ble_eq_true rfl) fl_RX8_28 dX8_init_76 ?_
    refine V.iload_n dX8_init_79 rfl rfl ?_
    refine V.aload_n dX8_init_80 rfl rfl ?_
    obtain ⟨A28, h29, h⟩ := bnd h
    refine V.aast h29 rfl rfl dX8_init_81 ?_
    refine V.iinc (ls' := [some (LR v0), some (LR v1), some (LI (v2 + (1 : Int32)))]) dX8_init_82 rfl ki_1 (by decide) rfl rfl ?_
    refine V.goto (tgt := 70) dX8_init_85 (by decide) ?_
    refine V.weak [true, true, true] ?_
    exact hk70 h
def l_X8_init_70 (N : Nat) : Nat → LH → Option Nat → Option Nat → Int32 → Option (LH)
  | 0, _, _, _, _ => none
  | n + 1, A, v0, v1, v2 => b_X8_init_70 N (l_X8_init_70 N n) A v0 v1 v2
theorem wl_X8_init_70 {g : GG} {n0 z0 : Nat} (N : Nat) : ∀ (n : Nat) {A : LH} {v0 : Option Nat} {v1 : Option Nat} {v2 : Int32} {p : LH}, l_X8_init_70 N n A v0 v1 v2 = some p → V g m_X8_init 4 n0 z0 none p A 70 [some (LR v0), some (LR v1), some (LI v2)] []
  | 0, _, _, _, _, _, h => nomatch h
  | n + 1, _, _, _, _, _, h => wb_X8_init_70 N (wl_X8_init_70 N n) h
def b_X8_init (N : Nat) (A : LH) (v0 : Option Nat) : Option (LH) :=
  (f_X5_init (al A (.inr (5, [LI 0, LI 0, LR none, LI 0])) 4) (some (8 + hn A)) (2 : Int32) (16 : Int32)).bind fun p1 => (pF p1 v0 8 0 (LR (some (8 + hn A)))).bind fun A4 => (f_X5_init (al A4 (.inr (5, [LI 0, LI 0, LR none, LI 0])) 4) (some (8 + hn A4)) (3 : Int32) (16 : Int32)).bind fun p6 => (pF p6 v0 8 1 (LR (some (8 + hn A4)))).bind fun A9 => (f_X5_init (al A9 (.inr (5, [LI 0, LI 0, LR none, LI 0])) 4) (some (8 + hn A9)) (5 : Int32) (200 : Int32)).bind fun p11 => (pF p11 v0 8 2 (LR (some (8 + hn A9)))).bind fun A14 => (nR_ A14 4 (4 : Int32)).bind fun A16 => (pF A16 v0 8 3 (LR (some (8 + hn A14)))).bind fun A18 => (nR_ (al A18 (.inr (3, [LI 0, LR none, LR none])) 3) 3 (0 : Int32)).bind fun A20 => (f_X3_init N A20 (some (8 + hn A18)) (0 : Int32) (some (8 + hn (al A18 (.inr (3, [LI 0, LR none, LR none])) 3)))).bind fun p22 => l_X8_init_70 N N p22 v0 (some (8 + hn A18)) (0 : Int32)
set_option maxRecDepth 4000 in
theorem wb_X8_init {g : GG} {n0 z0 : Nat} (N : Nat) {A : LH} {v0 : Option Nat} {p : LH} (ho : isO A v0 8 = true) (h : b_X8_init N A v0 = some p) : V g m_X8_init 4 n0 z0 none p A 0 [some (LR v0)] [] := by
  unfold b_X8_init at h
  refine V.aload_n dX8_init_0 rfl rfl ?_
  refine V.objI ho ml_RX8_3 im_obj co_obj (by decide) (Nat.le_of_ble_eq_true rfl) dX8_init_1 ?_
  refine V.aload_n dX8_init_4 rfl rfl ?_
  refine V.new CF5 okT5 cl_RX8_9 in_5 ii_5 (fs := [LI 0, LI 0, LR none, LI 0]) rfl dX8_init_5 ?_
  refine V.dup dX8_init_8 rfl ?_
  refine V.iconst dX8_init_9 ki_2 ?_
  refine V.bipush dX8_init_10 kb_16 ?_
  obtain ⟨p1, h2, h⟩ := bnd h
  have w3 := w_X5_init (g := g) h2
  refine V.callI (args := [LI (2 : Int32), LI (16 : Int32)]) (st := [LR (some (8 + hn A)), LR v0]) w3.1 (oo_X5_init h2) mk_X5_init rfl ml_RX8_11 im_X5_init rfl rfl (Nat.le_of_ble_eq_true rfl) (by decide) rfl (Nat.le_of_ble_eq_true rfl) dX8_init_12 ?_
  obtain ⟨A4, h5, h⟩ := bnd h
  refine V.putFF h5 (nrR _ rfl) (ftR _ rfl) rfl rfl rfl CF8 (Nat.le_of_ble_eq_true rfl) fl_RX8_14 dX8_init_15 ?_
  refine V.aload_n dX8_init_18 rfl rfl ?_
  refine V.new CF5 okT5 cl_RX8_9 in_5 ii_5 (fs := [LI 0, LI 0, LR none, LI 0]) rfl dX8_init_19 ?_
  refine V.dup dX8_init_22 rfl ?_
  refine V.iconst dX8_init_23 ki_3 ?_
  refine V.bipush dX8_init_24 kb_16 ?_
  obtain ⟨p6, h7, h⟩ := bnd h
  have w8 := w_X5_init (g := g) h7
  refine V.callI (args := [LI (3 : Int32), LI (16 : Int32)]) (st := [LR (some (8 + hn A4)), LR v0]) w8.1 (oo_X5_init h7) mk_X5_init rfl ml_RX8_11 im_X5_init rfl rfl (Nat.le_of_ble_eq_true rfl) (by decide) rfl (Nat.le_of_ble_eq_true rfl) dX8_init_26 ?_
  obtain ⟨A9, h10, h⟩ := bnd h
  refine V.putFF h10 (nrR _ rfl) (ftR _ rfl) rfl rfl rfl CF8 (Nat.le_of_ble_eq_true rfl) fl_RX8_20 dX8_init_29 ?_
  refine V.aload_n dX8_init_32 rfl rfl ?_
  refine V.new CF5 okT5 cl_RX8_9 in_5 ii_5 (fs := [LI 0, LI 0, LR none, LI 0]) rfl dX8_init_33 ?_
  refine V.dup dX8_init_36 rfl ?_
  refine V.iconst dX8_init_37 ki_5 ?_
  refine V.sipush dX8_init_38 ks_200 ?_
  obtain ⟨p11, h12, h⟩ := bnd h
  have w13 := w_X5_init (g := g) h12
  refine V.callI (args := [LI (5 : Int32), LI (200 : Int32)]) (st := [LR (some (8 + hn A9)), LR v0]) w13.1 (oo_X5_init h12) mk_X5_init rfl ml_RX8_11 im_X5_init rfl rfl (Nat.le_of_ble_eq_true rfl) (by decide) rfl (Nat.le_of_ble_eq_true rfl) dX8_init_41 ?_
  obtain ⟨A14, h15, h⟩ := bnd h
  refine V.putFF h15 (nrR _ rfl) (ftR _ rfl) rfl rfl rfl CF8 (Nat.le_of_ble_eq_true rfl) fl_RX8_23 dX8_init_44 ?_
  refine V.aload_n dX8_init_47 rfl rfl ?_
  refine V.iconst dX8_init_48 ki_4 ?_
  obtain ⟨A16, h17, h⟩ := bnd h
  refine V.newq h17 rfl cl_RX8_26 ov_4 dX8_init_49 ?_
  obtain ⟨A18, h19, h⟩ := bnd h
  refine V.putFF h19 (nrR _ rfl) (ftR _ rfl) rfl rfl rfl CF8 (Nat.le_of_ble_eq_true rfl) fl_RX8_28 dX8_init_52 ?_
  refine V.new CF3 okT3 cl_RX8_26 in_3 ii_3 (fs := [LI 0, LR none, LR none]) rfl dX8_init_55 ?_
  refine V.dup dX8_init_58 rfl ?_
  refine V.iconst dX8_init_59 ki_0 ?_
  refine V.iconst dX8_init_60 ki_0 ?_
  obtain ⟨A20, h21, h⟩ := bnd h
  refine V.newq h21 rfl cl_RX8_32 ov_3 dX8_init_61 ?_
  obtain ⟨p22, h23, h⟩ := bnd h
  have w24 := w_X3_init (g := g) N h23
  refine V.callI (args := [LI (0 : Int32), LR (some (8 + hn (al A18 (.inr (3, [LI 0, LR none, LR none])) 3)))]) (st := [LR (some (8 + hn A18))]) w24.1 (oo_X3_init h23) mk_X3_init rfl ml_RX8_34 im_X3_init rfl rfl (Nat.le_of_ble_eq_true rfl) (by decide) rfl (Nat.le_of_ble_eq_true rfl) dX8_init_64 ?_
  refine V.astore_n (ls' := [some (LR v0), some (LR (some (8 + hn A18)))]) dX8_init_67 rfl (by decide) rfl rfl ?_
  refine V.iconst dX8_init_68 ki_0 ?_
  refine V.istore_n (ls' := [some (LR v0), some (LR (some (8 + hn A18))), some (LI (0 : Int32))]) dX8_init_69 rfl (by decide) rfl rfl ?_
  refine V.weak [true, true, true] ?_
  exact wl_X8_init_70 N N h
def f_X8_init (N : Nat) (A : LH) (v0 : Option Nat) : Option (LH) := if isO A v0 8 = true then b_X8_init N A v0 else none
theorem w_X8_init {g : GG} (N : Nat) {A : LH} {v0 : Option Nat} {p : LH} (h : f_X8_init N A v0 = some p) : Ct g m_X8_init 4 [LR v0] A none p := by
  unfold f_X8_init at h
  obtain ⟨ho, h⟩ := ifN h
  exact ⟨wb_X8_init N ho h, trivial⟩
theorem oo_X8_init {N : Nat} {A : LH} {v0 : Option Nat} {p : LH} (h : f_X8_init N A v0 = some p) : isO A v0 8 = true := by unfold f_X8_init at h; exact (ifN h).1
def b_X8_copyFrom_35 (N : Nat) (k35 : LH → Option Nat → Option Nat → Int32 → Option (LH)) (A : LH) (v0 : Option Nat) (v1 : Option Nat) (v2 : Int32) : Option (LH) :=
  if (4 : Int32) ≤ v2 then some A else (gR A v0 8 3).bind fun x23 => (gR A v1 8 3).bind fun x25 => (aR A x25 4 v2).bind fun x27 => (sR A x23 4 3 v2 x27).bind fun A29 => k35 A29 v0 v1 (v2 + (1 : Int32))
set_option maxRecDepth 4000 in
theorem wb_X8_copyFrom_35 {g : GG} {n0 z0 : Nat} (N : Nat) {k35 : LH → Option Nat → Option Nat → Int32 → Option (LH)} {A : LH} {v0 : Option Nat} {v1 : Option Nat} {v2 : Int32} {p : LH} (hk35 : ∀ {A : LH} {v0 : Option Nat} {v1 : Option Nat} {v2 : Int32} {p : LH}, k35 A v0 v1 v2 = some p → V g m_X8_copyFrom 2 n0 z0 none p A 35 [some (LR v0), some (LR v1), some (LI v2)] []) (h : b_X8_copyFrom_35 N k35 A v0 v1 v2 = some p) : V g m_X8_copyFrom 2 n0 z0 none p A 35 [some (LR v0), some (LR v1), some (LI v2)] [] := by
  unfold b_X8_copyFrom_35 at h
  refine V.iload_n dX8_copyFrom_35 rfl rfl ?_
  refine V.iconst dX8_copyFrom_36 ki_4 ?_
  refine V.icmp_ge (tgt := 58) dX8_copyFrom_37 (by decide) (fun c22 => ?_) (fun c22 => ?_)
  · have h := (if_pos c22).symm.trans h
    obtain rfl := Option.some.inj h
    exact V.return_ dX8_copyFrom_58
  · have h := (if_neg c22).symm.trans h
    refine V.aload_n dX8_copyFrom_40 rfl rfl ?_
    obtain ⟨x23, h24, h⟩ := bnd h
    refine V.getF (gR_F h24) CF8 (Nat.le_of_ble_eq_true rfl) fl_RX8_28 dX8_copyFrom_41 ?_
    refine V.iload_n dX8_copyFrom_44 rfl rfl ?_
    refine V.aload_n dX8_copyFrom_45 rfl rfl ?_
    obtain ⟨x25, h26, h⟩ := bnd h
    refine V.getF (gR_F h26) CF8 (Nat.le_of_ble_eq_true rfl) fl_RX8_28 dX8_copyFrom_46 ?_
    refine V.iload_n dX8_copyFrom_49 rfl rfl ?_
    obtain ⟨x27, h28, h⟩ := bnd h
    refine V.aald h28 rfl dX8_copyFrom_50 ?_
    obtain ⟨A29, h30, h⟩ := bnd h
    refine V.aast h30 rfl rfl dX8_copyFrom_51 ?_
    refine V.iinc (ls' := [some (LR v0), some (LR v1), some (LI (v2 + (1 : Int32)))]) dX8_copyFrom_52 rfl ki_1 (by decide) rfl rfl ?_
    refine V.goto (tgt := 35) dX8_copyFrom_55 (by decide) ?_
    refine V.weak [true, true, true] ?_
    exact hk35 h
def l_X8_copyFrom_35 (N : Nat) : Nat → LH → Option Nat → Option Nat → Int32 → Option (LH)
  | 0, _, _, _, _ => none
  | n + 1, A, v0, v1, v2 => b_X8_copyFrom_35 N (l_X8_copyFrom_35 N n) A v0 v1 v2
theorem wl_X8_copyFrom_35 {g : GG} {n0 z0 : Nat} (N : Nat) : ∀ (n : Nat) {A : LH} {v0 : Option Nat} {v1 : Option Nat} {v2 : Int32} {p : LH}, l_X8_copyFrom_35 N n A v0 v1 v2 = some p → V g m_X8_copyFrom 2 n0 z0 none p A 35 [some (LR v0), some (LR v1), some (LI v2)] []
  | 0, _, _, _, _, _, h => nomatch h
  | n + 1, _, _, _, _, _, h => wb_X8_copyFrom_35 N (wl_X8_copyFrom_35 N n) h
def b_X8_copyFrom (N : Nat) (A : LH) (v0 : Option Nat) (v1 : Option Nat) : Option (LH) :=
  (gR A v0 8 0).bind fun x1 => (gR A v1 8 0).bind fun x3 => (f_X5_copyFrom A x1 x3).bind fun p5 => (gR p5 v0 8 1).bind fun x8 => (gR p5 v1 8 1).bind fun x10 => (f_X5_copyFrom p5 x8 x10).bind fun p12 => (gR p12 v0 8 2).bind fun x15 => (gR p12 v1 8 2).bind fun x17 => (f_X5_copyFrom p12 x15 x17).bind fun p19 => l_X8_copyFrom_35 N N p19 v0 v1 (0 : Int32)
set_option maxRecDepth 4000 in
theorem wb_X8_copyFrom {g : GG} {n0 z0 : Nat} (N : Nat) {A : LH} {v0 : Option Nat} {v1 : Option Nat} {p : LH} (h : b_X8_copyFrom N A v0 v1 = some p) : V g m_X8_copyFrom 2 n0 z0 none p A 0 [some (LR v0), some (LR v1)] [] := by
  unfold b_X8_copyFrom at h
  refine V.aload_n dX8_copyFrom_0 rfl rfl ?_
  obtain ⟨x1, h2, h⟩ := bnd h
  refine V.getF (gR_F h2) CF8 (Nat.le_of_ble_eq_true rfl) fl_RX8_14 dX8_copyFrom_1 ?_
  refine V.aload_n dX8_copyFrom_4 rfl rfl ?_
  obtain ⟨x3, h4, h⟩ := bnd h
  refine V.getF (gR_F h4) CF8 (Nat.le_of_ble_eq_true rfl) fl_RX8_14 dX8_copyFrom_5 ?_
  obtain ⟨p5, h6, h⟩ := bnd h
  have w7 := w_X5_copyFrom (g := g) h6
  refine V.callVv (args := [LR x3]) (st := []) w7.1 (oo_X5_copyFrom h6) mk_X5_copyFrom w7.2 vc_5 ml_RX8_37 im_X5_copyFrom se_X5_copyFrom rfl (Nat.le_of_ble_eq_true rfl) (by decide) rfl (Nat.le_of_ble_eq_true rfl) dX8_copyFrom_8 ?_
  refine V.aload_n dX8_copyFrom_11 rfl rfl ?_
  obtain ⟨x8, h9, h⟩ := bnd h
  refine V.getF (gR_F h9) CF8 (Nat.le_of_ble_eq_true rfl) fl_RX8_20 dX8_copyFrom_12 ?_
  refine V.aload_n dX8_copyFrom_15 rfl rfl ?_
  obtain ⟨x10, h11, h⟩ := bnd h
  refine V.getF (gR_F h11) CF8 (Nat.le_of_ble_eq_true rfl) fl_RX8_20 dX8_copyFrom_16 ?_
  obtain ⟨p12, h13, h⟩ := bnd h
  have w14 := w_X5_copyFrom (g := g) h13
  refine V.callVv (args := [LR x10]) (st := []) w14.1 (oo_X5_copyFrom h13) mk_X5_copyFrom w14.2 vc_5 ml_RX8_37 im_X5_copyFrom se_X5_copyFrom rfl (Nat.le_of_ble_eq_true rfl) (by decide) rfl (Nat.le_of_ble_eq_true rfl) dX8_copyFrom_19 ?_
  refine V.aload_n dX8_copyFrom_22 rfl rfl ?_
  obtain ⟨x15, h16, h⟩ := bnd h
  refine V.getF (gR_F h16) CF8 (Nat.le_of_ble_eq_true rfl) fl_RX8_23 dX8_copyFrom_23 ?_
  refine V.aload_n dX8_copyFrom_26 rfl rfl ?_
  obtain ⟨x17, h18, h⟩ := bnd h
  refine V.getF (gR_F h18) CF8 (Nat.le_of_ble_eq_true rfl) fl_RX8_23 dX8_copyFrom_27 ?_
  obtain ⟨p19, h20, h⟩ := bnd h
  have w21 := w_X5_copyFrom (g := g) h20
  refine V.callVv (args := [LR x17]) (st := []) w21.1 (oo_X5_copyFrom h20) mk_X5_copyFrom w21.2 vc_5 ml_RX8_37 im_X5_copyFrom se_X5_copyFrom rfl (Nat.le_of_ble_eq_true rfl) (by decide) rfl (Nat.le_of_ble_eq_true rfl) dX8_copyFrom_30 ?_
  refine V.iconst dX8_copyFrom_33 ki_0 ?_
  refine V.istore_n (ls' := [some (LR v0), some (LR v1), some (LI (0 : Int32))]) dX8_copyFrom_34 rfl (by decide) rfl rfl ?_
  refine V.weak [true, true, true] ?_
  exact wl_X8_copyFrom_35 N N h
def f_X8_copyFrom (N : Nat) (A : LH) (v0 : Option Nat) (v1 : Option Nat) : Option (LH) := if isO A v0 8 = true then b_X8_copyFrom N A v0 v1 else none
theorem w_X8_copyFrom {g : GG} (N : Nat) {A : LH} {v0 : Option Nat} {v1 : Option Nat} {p : LH} (h : f_X8_copyFrom N A v0 v1 = some p) : Ct g m_X8_copyFrom 2 [LR v0, LR v1] A none p := by
  unfold f_X8_copyFrom at h
  obtain ⟨ho, h⟩ := ifN h
  exact ⟨wb_X8_copyFrom N h, trivial⟩
theorem oo_X8_copyFrom {N : Nat} {A : LH} {v0 : Option Nat} {v1 : Option Nat} {p : LH} (h : f_X8_copyFrom N A v0 v1 = some p) : isO A v0 8 = true := by unfold f_X8_copyFrom at h; exact (ifN h).1
def b_X8_canBeAsked (A : LH) (v0 : Option Nat) (v1 : Int32) (v2 : Int32) (v3 : Int32) (v4 : Int32) : Option (Int32) :=
  (gR A v0 8 0).bind fun x1 => (f_X5_has A x1 v1).bind fun p3 => if p3 = 0 then some (0 : Int32) else (f_X10_isIn v2 (4 : Int32)).bind fun p7 => if p7 = 0 then some (0 : Int32) else (gR A v0 8 1).bind fun x11 => (f_X5_has A x11 v3).bind fun p13 => if p13 = 0 then some (0 : Int32) else (f_X10_isIn v4 (24 : Int32)).bind fun p17 => if p17 = 0 then some (0 : Int32) else some (1 : Int32)
set_option maxRecDepth 4000 in
theorem wb_X8_canBeAsked {g : GG} {n0 z0 : Nat} {A : LH} {v0 : Option Nat} {v1 : Int32} {v2 : Int32} {v3 : Int32} {v4 : Int32} {p : Int32} (h : b_X8_canBeAsked A v0 v1 v2 v3 v4 = some p) : V g m_X8_canBeAsked 2 n0 z0 (some (LI p)) A A 0 [some (LR v0), some (LI v1), some (LI v2), some (LI v3), some (LI v4)] [] := by
  unfold b_X8_canBeAsked at h
  refine V.aload_n dX8_canBeAsked_0 rfl rfl ?_
  obtain ⟨x1, h2, h⟩ := bnd h
  refine V.getF (gR_F h2) CF8 (Nat.le_of_ble_eq_true rfl) fl_RX8_14 dX8_canBeAsked_1 ?_
  refine V.iload_n dX8_canBeAsked_4 rfl rfl ?_
  obtain ⟨p3, h4, h⟩ := bnd h
  have w5 := w_X5_has (g := g) h4
  refine V.callVi (args := [LI v1]) (st := []) w5.1 (oo_X5_has h4) mk_X5_has w5.2 vc_5 ml_RX8_41 im_X5_has se_X5_has rfl (Nat.le_of_ble_eq_true rfl) (by decide) rfl (Nat.le_of_ble_eq_true rfl) dX8_canBeAsked_5 ?_
  refine V.if_eq (tgt := 44) dX8_canBeAsked_8 (by decide) (fun c6 => ?_) (fun c6 => ?_)
  · have h := (if_pos c6).symm.trans h
    refine V.iconst dX8_canBeAsked_44 ki_0 ?_
    obtain rfl := Option.some.inj h
    exact V.ireturn dX8_canBeAsked_45
  · have h := (if_neg c6).symm.trans h
    refine V.iload_n dX8_canBeAsked_11 rfl rfl ?_
    refine V.iconst dX8_canBeAsked_12 ki_4 ?_
    obtain ⟨p7, h8, h⟩ := bnd h
    have w9 := w_X10_isIn (g := g) (A := A) h8
    refine V.callSNi (args := [LI v2, LI (4 : Int32)]) (st := []) w9.1 mk_X10_isIn w9.2 ml_RX8_45 sm_X10_isIn rfl (Nat.le_of_ble_eq_true rfl) (by decide) rfl (Nat.le_of_ble_eq_true rfl) dX8_canBeAsked_13 ?_
    refine V.if_eq (tgt := 44) dX8_canBeAsked_16 (by decide) (fun c10 => ?_) (fun c10 => ?_)
    · have h := (if_pos c10).symm.trans h
      refine V.iconst dX8_canBeAsked_44 ki_0 ?_
      obtain rfl := Option.some.inj h
      exact V.ireturn dX8_canBeAsked_45
    · have h := (if_neg c10).symm.trans h
      refine V.aload_n dX8_canBeAsked_19 rfl rfl ?_
      obtain ⟨x11, h12, h⟩ := bnd h
      refine V.getF (gR_F h12) CF8 (Nat.le_of_ble_eq_true rfl) fl_RX8_20 dX8_canBeAsked_20 ?_
      refine V.iload_n dX8_canBeAsked_23 rfl rfl ?_
      obtain ⟨p13, h14, h⟩ := bnd h
      have w15 := w_X5_has (g := g) h14
      refine V.callVi (args := [LI v3]) (st := []) w15.1 (oo_X5_has h14) mk_X5_has w15.2 vc_5 ml_RX8_41 im_X5_has se_X5_has rfl (Nat.le_of_ble_eq_true rfl) (by decide) rfl (Nat.le_of_ble_eq_true rfl) dX8_canBeAsked_24 ?_
      refine V.if_eq (tgt := 44) dX8_canBeAsked_27 (by decide) (fun c16 => ?_) (fun c16 => ?_)
      · have h := (if_pos c16).symm.trans h
        refine V.iconst dX8_canBeAsked_44 ki_0 ?_
        obtain rfl := Option.some.inj h
        exact V.ireturn dX8_canBeAsked_45
      · have h := (if_neg c16).symm.trans h
        refine V.iload dX8_canBeAsked_30 rfl ?_
        refine V.bipush dX8_canBeAsked_32 kb_24 ?_
        obtain ⟨p17, h18, h⟩ := bnd h
        have w19 := w_X10_isIn (g := g) (A := A) h18
        refine V.callSNi (args := [LI v4, LI (24 : Int32)]) (st := []) w19.1 mk_X10_isIn w19.2 ml_RX8_45 sm_X10_isIn rfl (Nat.le_of_ble_eq_true rfl) (by decide) rfl (Nat.le_of_ble_eq_true rfl) dX8_canBeAsked_34 ?_
        refine V.if_eq (tgt := 44) dX8_canBeAsked_37 (by decide) (fun c20 => ?_) (fun c20 => ?_)
        · have h := (if_pos c20).symm.trans h
          refine V.iconst dX8_canBeAsked_44 ki_0 ?_
          obtain rfl := Option.some.inj h
          exact V.ireturn dX8_canBeAsked_45
        · have h := (if_neg c20).symm.trans h
          refine V.iconst dX8_canBeAsked_40 ki_1 ?_
          refine V.goto (tgt := 45) dX8_canBeAsked_41 (by decide) ?_
          obtain rfl := Option.some.inj h
          exact V.ireturn dX8_canBeAsked_45
def f_X8_canBeAsked (A : LH) (v0 : Option Nat) (v1 : Int32) (v2 : Int32) (v3 : Int32) (v4 : Int32) : Option (Int32) := if isO A v0 8 = true then zd (b_X8_canBeAsked A v0 v1 v2 v3 v4) else none
theorem w_X8_canBeAsked {g : GG} {A : LH} {v0 : Option Nat} {v1 : Int32} {v2 : Int32} {v3 : Int32} {v4 : Int32} {p : Int32} (h : f_X8_canBeAsked A v0 v1 v2 v3 v4 = some p) : Ct g m_X8_canBeAsked 2 [LR v0, LI v1, LI v2, LI v3, LI v4] A (some (LI p)) A := by
  unfold f_X8_canBeAsked at h
  obtain ⟨ho, h⟩ := ifN h
  obtain ⟨h, hz⟩ := zd_sp h
  exact ⟨wb_X8_canBeAsked h, (RTz hz)⟩
theorem oo_X8_canBeAsked {A : LH} {v0 : Option Nat} {v1 : Int32} {v2 : Int32} {v3 : Int32} {v4 : Int32} {p : Int32} (h : f_X8_canBeAsked A v0 v1 v2 v3 v4 = some p) : isO A v0 8 = true := by unfold f_X8_canBeAsked at h; exact (ifN h).1
def b_X8_marked_4 (N : Nat) (A : LH) (k4 : Option Nat → Int32 → Int32 → Option (Int32)) (v0 : Option Nat) (v1 : Int32) (v2 : Int32) : Option (Int32) :=
  (gR A v0 8 2).bind fun x1 => (gI A x1 5 3).bind fun x3 => if x3 ≤ v2 then some v1 else (gR A v0 8 2).bind fun x6 => (f_X5_get A x6 v2 (4 : Int32)).bind fun p8 => if p8 = (-1 : Int32) then k4 v0 v1 (v2 + (1 : Int32)) else k4 v0 (v1 + (1 : Int32)) (v2 + (1 : Int32))
set_option maxRecDepth 4000 in
theorem wb_X8_marked_4 {g : GG} {n0 z0 : Nat} (N : Nat) {k4 : Option Nat → Int32 → Int32 → Option (Int32)} {A : LH} {v0 : Option Nat} {v1 : Int32} {v2 : Int32} {p : Int32} (hk4 : ∀ {v0 : Option Nat} {v1 : Int32} {v2 : Int32} {p : Int32}, k4 v0 v1 v2 = some p → V g m_X8_marked 3 n0 z0 (some (LI p)) A A 4 [some (LR v0), some (LI v1), some (LI v2)] []) (h : b_X8_marked_4 N A k4 v0 v1 v2 = some p) : V g m_X8_marked 3 n0 z0 (some (LI p)) A A 4 [some (LR v0), some (LI v1), some (LI v2)] [] := by
  unfold b_X8_marked_4 at h
  refine V.iload_n dX8_marked_4 rfl rfl ?_
  refine V.aload_n dX8_marked_5 rfl rfl ?_
  obtain ⟨x1, h2, h⟩ := bnd h
  refine V.getF (gR_F h2) CF8 (Nat.le_of_ble_eq_true rfl) fl_RX8_23 dX8_marked_6 ?_
  obtain ⟨x3, h4, h⟩ := bnd h
  refine V.getFN (gI_F h4) CF5 (Nat.le_of_ble_eq_true rfl) fl_RX8_49 dX8_marked_9 ?_
  refine V.icmp_ge (tgt := 37) dX8_marked_12 (by decide) (fun c5 => ?_) (fun c5 => ?_)
  · have h := (if_pos c5).symm.trans h
    refine V.iload_n dX8_marked_37 rfl rfl ?_
    obtain rfl := Option.some.inj h
    exact V.ireturn dX8_marked_38
  · have h := (if_neg c5).symm.trans h
    refine V.aload_n dX8_marked_15 rfl rfl ?_
    obtain ⟨x6, h7, h⟩ := bnd h
    refine V.getF (gR_F h7) CF8 (Nat.le_of_ble_eq_true rfl) fl_RX8_23 dX8_marked_16 ?_
    refine V.iload_n dX8_marked_19 rfl rfl ?_
    refine V.iconst dX8_marked_20 ki_4 ?_
    obtain ⟨p8, h9, h⟩ := bnd h
    have w10 := w_X5_get (g := g) h9
    refine V.callVi (args := [LI v2, LI (4 : Int32)]) (st := []) w10.1 (oo_X5_get h9) mk_X5_get w10.2 vc_5 ml_RX8_53 im_X5_get se_X5_get rfl (Nat.le_of_ble_eq_true rfl) (by decide) rfl (Nat.le_of_ble_eq_true rfl) dX8_marked_21 ?_
    refine V.iconst dX8_marked_24 ki_m1 ?_
    refine V.icmp_eq (tgt := 31) dX8_marked_25 (by decide) (fun c11 => ?_) (fun c11 => ?_)
    · have h := (if_pos c11).symm.trans h
      refine V.iinc (ls' := [some (LR v0), some (LI v1), some (LI (v2 + (1 : Int32)))]) dX8_marked_31 rfl ki_1 (by decide) rfl rfl ?_
      refine V.goto (tgt := 4) dX8_marked_34 (by decide) ?_
      refine V.weak [true, true, true] ?_
      exact hk4 h
    · have h := (if_neg c11).symm.trans h
      refine V.iinc (ls' := [some (LR v0), some (LI (v1 + (1 : Int32))), some (LI v2)]) dX8_marked_28 rfl ki_1 (by decide) rfl rfl ?_
      refine V.iinc (ls' := [some (LR v0), some (LI (v1 + (1 : Int32))), some (LI (v2 + (1 : Int32)))]) dX8_marked_31 rfl ki_1 (by decide) rfl rfl ?_
      refine V.goto (tgt := 4) dX8_marked_34 (by decide) ?_
      refine V.weak [true, true, true] ?_
      exact hk4 h
def l_X8_marked_4 (N : Nat) (A : LH) : Nat → Option Nat → Int32 → Int32 → Option (Int32)
  | 0, _, _, _ => none
  | n + 1, v0, v1, v2 => b_X8_marked_4 N A (l_X8_marked_4 N A n) v0 v1 v2
theorem wl_X8_marked_4 {g : GG} {n0 z0 : Nat} (N : Nat) {A : LH} : ∀ (n : Nat) {v0 : Option Nat} {v1 : Int32} {v2 : Int32} {p : Int32}, l_X8_marked_4 N A n v0 v1 v2 = some p → V g m_X8_marked 3 n0 z0 (some (LI p)) A A 4 [some (LR v0), some (LI v1), some (LI v2)] []
  | 0, _, _, _, _, h => nomatch h
  | n + 1, _, _, _, _, h => wb_X8_marked_4 N (wl_X8_marked_4 N n) h
def b_X8_marked (N : Nat) (A : LH) (v0 : Option Nat) : Option (Int32) :=
  l_X8_marked_4 N A N v0 (0 : Int32) (0 : Int32)
set_option maxRecDepth 4000 in
theorem wb_X8_marked {g : GG} {n0 z0 : Nat} (N : Nat) {A : LH} {v0 : Option Nat} {p : Int32} (h : b_X8_marked N A v0 = some p) : V g m_X8_marked 3 n0 z0 (some (LI p)) A A 0 [some (LR v0)] [] := by
  unfold b_X8_marked at h
  refine V.iconst dX8_marked_0 ki_0 ?_
  refine V.istore_n (ls' := [some (LR v0), some (LI (0 : Int32))]) dX8_marked_1 rfl (by decide) rfl rfl ?_
  refine V.iconst dX8_marked_2 ki_0 ?_
  refine V.istore_n (ls' := [some (LR v0), some (LI (0 : Int32)), some (LI (0 : Int32))]) dX8_marked_3 rfl (by decide) rfl rfl ?_
  refine V.weak [true, true, true] ?_
  exact wl_X8_marked_4 N N h
def f_X8_marked (N : Nat) (A : LH) (v0 : Option Nat) : Option (Int32) := if isO A v0 8 = true then b_X8_marked N A v0 else none
theorem w_X8_marked {g : GG} (N : Nat) {A : LH} {v0 : Option Nat} {p : Int32} (h : f_X8_marked N A v0 = some p) : Ct g m_X8_marked 3 [LR v0] A (some (LI p)) A := by
  unfold f_X8_marked at h
  obtain ⟨ho, h⟩ := ifN h
  exact ⟨wb_X8_marked N h, rfl⟩
theorem oo_X8_marked {N : Nat} {A : LH} {v0 : Option Nat} {p : Int32} (h : f_X8_marked N A v0 = some p) : isO A v0 8 = true := by unfold f_X8_marked at h; exact (ifN h).1
def b_X8_cases (A : LH) (v0 : Option Nat) : Option (Int32) :=
  (gR A v0 8 0).bind fun x1 => (gI A x1 5 3).bind fun x3 => (gR A v0 8 1).bind fun x5 => (gI A x5 5 3).bind fun x7 => some ((x3 * (4 : Int32)) * x7)
set_option maxRecDepth 4000 in
theorem wb_X8_cases {g : GG} {n0 z0 : Nat} {A : LH} {v0 : Option Nat} {p : Int32} (h : b_X8_cases A v0 = some p) : V g m_X8_cases 0 n0 z0 (some (LI p)) A A 0 [some (LR v0)] [] := by
  unfold b_X8_cases at h
  refine V.aload_n dX8_cases_0 rfl rfl ?_
  obtain ⟨x1, h2, h⟩ := bnd h
  refine V.getF (gR_F h2) CF8 (Nat.le_of_ble_eq_true rfl) fl_RX8_14 dX8_cases_1 ?_
  obtain ⟨x3, h4, h⟩ := bnd h
  refine V.getFN (gI_F h4) CF5 (Nat.le_of_ble_eq_true rfl) fl_RX8_49 dX8_cases_4 ?_
  refine V.iconst dX8_cases_7 ki_4 ?_
  refine V.imul dX8_cases_8 ?_
  refine V.aload_n dX8_cases_9 rfl rfl ?_
  obtain ⟨x5, h6, h⟩ := bnd h
  refine V.getF (gR_F h6) CF8 (Nat.le_of_ble_eq_true rfl) fl_RX8_20 dX8_cases_10 ?_
  obtain ⟨x7, h8, h⟩ := bnd h
  refine V.getFN (gI_F h8) CF5 (Nat.le_of_ble_eq_true rfl) fl_RX8_49 dX8_cases_13 ?_
  refine V.imul dX8_cases_16 ?_
  obtain rfl := Option.some.inj h
  exact V.ireturn dX8_cases_17
def f_X8_cases (A : LH) (v0 : Option Nat) : Option (Int32) := if isO A v0 8 = true then b_X8_cases A v0 else none
theorem w_X8_cases {g : GG} {A : LH} {v0 : Option Nat} {p : Int32} (h : f_X8_cases A v0 = some p) : Ct g m_X8_cases 0 [LR v0] A (some (LI p)) A := by
  unfold f_X8_cases at h
  obtain ⟨ho, h⟩ := ifN h
  exact ⟨wb_X8_cases h, rfl⟩
theorem oo_X8_cases {A : LH} {v0 : Option Nat} {p : Int32} (h : f_X8_cases A v0 = some p) : isO A v0 8 = true := by unfold f_X8_cases at h; exact (ifN h).1
def b_X9_init (A : LH) (v0 : Option Nat) : Option (LH) :=
  (nI_ A 0 (16 : Int32)).bind fun A1 => (pF A1 v0 9 0 (LR (some (8 + hn A)))).bind fun A3 => some A3
set_option maxRecDepth 4000 in
theorem wb_X9_init {g : GG} {n0 z0 : Nat} {A : LH} {v0 : Option Nat} {p : LH} (ho : isO A v0 9 = true) (h : b_X9_init A v0 = some p) : V g m_X9_init 1 n0 z0 none p A 0 [some (LR v0)] [] := by
  unfold b_X9_init at h
  refine V.aload_n dX9_init_0 rfl rfl ?_
  refine V.objI ho ml_RX9_3 im_obj co_obj (by decide) (Nat.le_of_ble_eq_true rfl) dX9_init_1 ?_
  refine V.aload_n dX9_init_4 rfl rfl ?_
  refine V.bipush dX9_init_5 kb_16 ?_
  obtain ⟨A1, h2, h⟩ := bnd h
  refine V.newa (ty := .int) h2 rfl rfl rfl (fun _ z => z) (by decide) ac_0 dX9_init_7 ?_
  obtain ⟨A3, h4, h⟩ := bnd h
  refine V.putFF h4 (nrR _ rfl) (ftR _ rfl) rfl rfl rfl CF9 (Nat.le_of_ble_eq_true rfl) fl_RX9_11 dX9_init_9 ?_
  obtain rfl := Option.some.inj h
  exact V.return_ dX9_init_12
def f_X9_init (A : LH) (v0 : Option Nat) : Option (LH) := if isO A v0 9 = true then b_X9_init A v0 else none
theorem w_X9_init {g : GG} {A : LH} {v0 : Option Nat} {p : LH} (h : f_X9_init A v0 = some p) : Ct g m_X9_init 1 [LR v0] A none p := by
  unfold f_X9_init at h
  obtain ⟨ho, h⟩ := ifN h
  exact ⟨wb_X9_init ho h, trivial⟩
theorem oo_X9_init {A : LH} {v0 : Option Nat} {p : LH} (h : f_X9_init A v0 = some p) : isO A v0 9 = true := by unfold f_X9_init at h; exact (ifN h).1
def b_X9_stand_107 (A : LH) (s0 : Int32) (s1 : Option Nat) : Option (LH) :=
  (pZ A s1 9 11 s0).bind fun A50 => some A50
set_option maxRecDepth 4000 in
theorem wb_X9_stand_107 {g : GG} {n0 z0 : Nat} {A : LH} {s0 : Int32} {s1 : Option Nat} {p : LH} (h : b_X9_stand_107 A s0 s1 = some p) : V g m_X9_stand 3 n0 z0 none p A 107 [] [LI s0, LR s1] := by
  unfold b_X9_stand_107 at h
  obtain ⟨A50, h51, h⟩ := bnd h
  refine V.putF (pZ_F h51).1 (pZ_n (pZ_F h51).2) (pZ_f (pZ_F h51).2) rfl CF9 (Nat.le_of_ble_eq_true rfl) fl_RX9_64 dX9_stand_107 ?_
  obtain rfl := Option.some.inj h
  exact V.return_ dX9_stand_110
def b_X9_stand (A : LH) (v0 : Option Nat) (v1 : Option Nat) (v2 : Int32) (v3 : Int32) (v4 : Int32) (v5 : Int32) : Option (LH) :=
  (pF A v0 9 2 (LI v2)).bind fun A1 => (pF A1 v0 9 3 (LI v3)).bind fun A3 => (pF A3 v0 9 4 (LI v4)).bind fun A5 => (pF A5 v0 9 5 (LI v5)).bind fun A7 => (gR A7 v1 8 0).bind fun x9 => (f_X5_get A7 x9 v2 (0 : Int32)).bind fun p11 => (pF A7 v0 9 6 (LI p11)).bind fun A14 => (gI A14 v0 9 6).bind fun x16 => (f_J6_bitCount_0f7a4 x16).bind fun p18 => (pF A14 v0 9 7 (LI p18)).bind fun A21 => (gR A21 v1 8 0).bind fun x23 => (f_X5_get A21 x23 v2 (1 : Int32)).bind fun p25 => (pF A21 v0 9 8 (LI p25)).bind fun A28 => (gR A28 v1 8 1).bind fun x30 => (f_X5_get A28 x30 v4 (0 : Int32)).bind fun p32 => (pF A28 v0 9 9 (LI p32)).bind fun A35 => (gR A35 v1 8 1).bind fun x37 => (f_X5_get A35 x37 v4 (1 : Int32)).bind fun p39 => (pF A35 v0 9 10 (LI p39)).bind fun A42 => (gR A42 v1 8 1).bind fun x44 => (f_X5_get A42 x44 v4 (2 : Int32)).bind fun p46 => if p46 = v2 then b_X9_stand_107 A42 (1 : Int32) v0 else b_X9_stand_107 A42 (0 : Int32) v0
set_option maxRecDepth 4000 in
theorem wb_X9_stand {g : GG} {n0 z0 : Nat} {A : LH} {v0 : Option Nat} {v1 : Option Nat} {v2 : Int32} {v3 : Int32} {v4 : Int32} {v5 : Int32} {p : LH} (h : b_X9_stand A v0 v1 v2 v3 v4 v5 = some p) : V g m_X9_stand 3 n0 z0 none p A 0 [some (LR v0), some (LR v1), some (LI v2), some (LI v3), some (LI v4), some (LI v5)] [] := by
  unfold b_X9_stand at h
  refine V.aload_n dX9_stand_0 rfl rfl ?_
  refine V.iload_n dX9_stand_1 rfl rfl ?_
  obtain ⟨A1, h2, h⟩ := bnd h
  refine V.putF h2 rfl rfl rfl CF9 (Nat.le_of_ble_eq_true rfl) fl_RX9_15 dX9_stand_2 ?_
  refine V.aload_n dX9_stand_5 rfl rfl ?_
  refine V.iload_n dX9_stand_6 rfl rfl ?_
  obtain ⟨A3, h4, h⟩ := bnd h
  refine V.putF h4 rfl rfl rfl CF9 (Nat.le_of_ble_eq_true rfl) fl_RX9_19 dX9_stand_7 ?_
  refine V.aload_n dX9_stand_10 rfl rfl ?_
  refine V.iload dX9_stand_11 rfl ?_
  obtain ⟨A5, h6, h⟩ := bnd h
  refine V.putF h6 rfl rfl rfl CF9 (Nat.le_of_ble_eq_true rfl) fl_RX9_22 dX9_stand_13 ?_
  refine V.aload_n dX9_stand_16 rfl rfl ?_
  refine V.iload dX9_stand_17 rfl ?_
  obtain ⟨A7, h8, h⟩ := bnd h
  refine V.putF h8 rfl rfl rfl CF9 (Nat.le_of_ble_eq_true rfl) fl_RX9_25 dX9_stand_19 ?_
  refine V.aload_n dX9_stand_22 rfl rfl ?_
  refine V.aload_n dX9_stand_23 rfl rfl ?_
  obtain ⟨x9, h10, h⟩ := bnd h
  refine V.getFN (gR_F h10) CF8 (Nat.le_of_ble_eq_true rfl) fl_RX9_28 dX9_stand_24 ?_
  refine V.iload_n dX9_stand_27 rfl rfl ?_
  refine V.iconst dX9_stand_28 ki_0 ?_
  obtain ⟨p11, h12, h⟩ := bnd h
  have w13 := w_X5_get (g := g) h12
  refine V.callVi (args := [LI v2, LI (0 : Int32)]) (st := [LR v0]) w13.1 (oo_X5_get h12) mk_X5_get w13.2 vc_5 ml_RX9_34 im_X5_get se_X5_get rfl (Nat.le_of_ble_eq_true rfl) (by decide) rfl (Nat.le_of_ble_eq_true rfl) dX9_stand_29 ?_
  obtain ⟨A14, h15, h⟩ := bnd h
  refine V.putF h15 rfl rfl rfl CF9 (Nat.le_of_ble_eq_true rfl) fl_RX9_40 dX9_stand_32 ?_
  refine V.aload_n dX9_stand_35 rfl rfl ?_
  refine V.aload_n dX9_stand_36 rfl rfl ?_
  obtain ⟨x16, h17, h⟩ := bnd h
  refine V.getF (gI_F h17) CF9 (Nat.le_of_ble_eq_true rfl) fl_RX9_40 dX9_stand_37 ?_
  obtain ⟨p18, h19, h⟩ := bnd h
  have w20 := w_J6_bitCount_0f7a4 (g := g) (A := A14) h19
  refine V.callSi (args := [LI x16]) (st := [LR v0]) w20.1 mk_J6_bitCount_0f7a4 w20.2 ml_RX9_43 sm_J6_bitCount_0f7a4 rfl (Nat.le_of_ble_eq_true rfl) (by decide) rfl (Nat.le_of_ble_eq_true rfl) dX9_stand_40 ?_
  obtain ⟨A21, h22, h⟩ := bnd h
  refine V.putF h22 rfl rfl rfl CF9 (Nat.le_of_ble_eq_true rfl) fl_RX9_49 dX9_stand_43 ?_
  refine V.aload_n dX9_stand_46 rfl rfl ?_
  refine V.aload_n dX9_stand_47 rfl rfl ?_
  obtain ⟨x23, h24, h⟩ := bnd h
  refine V.getFN (gR_F h24) CF8 (Nat.le_of_ble_eq_true rfl) fl_RX9_28 dX9_stand_48 ?_
  refine V.iload_n dX9_stand_51 rfl rfl ?_
  refine V.iconst dX9_stand_52 ki_1 ?_
  obtain ⟨p25, h26, h⟩ := bnd h
  have w27 := w_X5_get (g := g) h26
  refine V.callVi (args := [LI v2, LI (1 : Int32)]) (st := [LR v0]) w27.1 (oo_X5_get h26) mk_X5_get w27.2 vc_5 ml_RX9_34 im_X5_get se_X5_get rfl (Nat.le_of_ble_eq_true rfl) (by decide) rfl (Nat.le_of_ble_eq_true rfl) dX9_stand_53 ?_
  obtain ⟨A28, h29, h⟩ := bnd h
  refine V.putF h29 rfl rfl rfl CF9 (Nat.le_of_ble_eq_true rfl) fl_RX9_52 dX9_stand_56 ?_
  refine V.aload_n dX9_stand_59 rfl rfl ?_
  refine V.aload_n dX9_stand_60 rfl rfl ?_
  obtain ⟨x30, h31, h⟩ := bnd h
  refine V.getFN (gR_F h31) CF8 (Nat.le_of_ble_eq_true rfl) fl_RX9_55 dX9_stand_61 ?_
  refine V.iload dX9_stand_64 rfl ?_
  refine V.iconst dX9_stand_66 ki_0 ?_
  obtain ⟨p32, h33, h⟩ := bnd h
  have w34 := w_X5_get (g := g) h33
  refine V.callVi (args := [LI v4, LI (0 : Int32)]) (st := [LR v0]) w34.1 (oo_X5_get h33) mk_X5_get w34.2 vc_5 ml_RX9_34 im_X5_get se_X5_get rfl (Nat.le_of_ble_eq_true rfl) (by decide) rfl (Nat.le_of_ble_eq_true rfl) dX9_stand_67 ?_
  obtain ⟨A35, h36, h⟩ := bnd h
  refine V.putF h36 rfl rfl rfl CF9 (Nat.le_of_ble_eq_true rfl) fl_RX9_58 dX9_stand_70 ?_
  refine V.aload_n dX9_stand_73 rfl rfl ?_
  refine V.aload_n dX9_stand_74 rfl rfl ?_
  obtain ⟨x37, h38, h⟩ := bnd h
  refine V.getFN (gR_F h38) CF8 (Nat.le_of_ble_eq_true rfl) fl_RX9_55 dX9_stand_75 ?_
  refine V.iload dX9_stand_78 rfl ?_
  refine V.iconst dX9_stand_80 ki_1 ?_
  obtain ⟨p39, h40, h⟩ := bnd h
  have w41 := w_X5_get (g := g) h40
  refine V.callVi (args := [LI v4, LI (1 : Int32)]) (st := [LR v0]) w41.1 (oo_X5_get h40) mk_X5_get w41.2 vc_5 ml_RX9_34 im_X5_get se_X5_get rfl (Nat.le_of_ble_eq_true rfl) (by decide) rfl (Nat.le_of_ble_eq_true rfl) dX9_stand_81 ?_
  obtain ⟨A42, h43, h⟩ := bnd h
  refine V.putF h43 rfl rfl rfl CF9 (Nat.le_of_ble_eq_true rfl) fl_RX9_61 dX9_stand_84 ?_
  refine V.aload_n dX9_stand_87 rfl rfl ?_
  refine V.aload_n dX9_stand_88 rfl rfl ?_
  obtain ⟨x44, h45, h⟩ := bnd h
  refine V.getFN (gR_F h45) CF8 (Nat.le_of_ble_eq_true rfl) fl_RX9_55 dX9_stand_89 ?_
  refine V.iload dX9_stand_92 rfl ?_
  refine V.iconst dX9_stand_94 ki_2 ?_
  obtain ⟨p46, h47, h⟩ := bnd h
  have w48 := w_X5_get (g := g) h47
  refine V.callVi (args := [LI v4, LI (2 : Int32)]) (st := [LR v0]) w48.1 (oo_X5_get h47) mk_X5_get w48.2 vc_5 ml_RX9_34 im_X5_get se_X5_get rfl (Nat.le_of_ble_eq_true rfl) (by decide) rfl (Nat.le_of_ble_eq_true rfl) dX9_stand_95 ?_
  refine V.iload_n dX9_stand_98 rfl rfl ?_
  refine V.icmp_ne (tgt := 106) dX9_stand_99 (by decide) (fun c49 => ?_) (fun c49 => ?_)
  · have h := (if_neg c49).symm.trans h
    refine V.iconst dX9_stand_106 ki_0 ?_
    refine V.weak [] ?_
    exact wb_X9_stand_107 h
  · have h := (if_pos c49).symm.trans h
    refine V.iconst dX9_stand_102 ki_1 ?_
    refine V.goto (tgt := 107) dX9_stand_103 (by decide) ?_
    refine V.weak [] ?_
    exact wb_X9_stand_107 h
def f_X9_stand (A : LH) (v0 : Option Nat) (v1 : Option Nat) (v2 : Int32) (v3 : Int32) (v4 : Int32) (v5 : Int32) : Option (LH) := if isO A v0 9 = true then b_X9_stand A v0 v1 v2 v3 v4 v5 else none
theorem w_X9_stand {g : GG} {A : LH} {v0 : Option Nat} {v1 : Option Nat} {v2 : Int32} {v3 : Int32} {v4 : Int32} {v5 : Int32} {p : LH} (h : f_X9_stand A v0 v1 v2 v3 v4 v5 = some p) : Ct g m_X9_stand 3 [LR v0, LR v1, LI v2, LI v3, LI v4, LI v5] A none p := by
  unfold f_X9_stand at h
  obtain ⟨ho, h⟩ := ifN h
  exact ⟨wb_X9_stand h, trivial⟩
theorem oo_X9_stand {A : LH} {v0 : Option Nat} {v1 : Option Nat} {v2 : Int32} {v3 : Int32} {v4 : Int32} {v5 : Int32} {p : LH} (h : f_X9_stand A v0 v1 v2 v3 v4 v5 = some p) : isO A v0 9 = true := by unfold f_X9_stand at h; exact (ifN h).1
def b_X9_standAtAsk (A : LH) (v0 : Option Nat) (v1 : Option Nat) (v2 : Int32) : Option (LH) :=
  (gR A v1 8 2).bind fun x1 => (f_X5_get A x1 v2 (0 : Int32)).bind fun p3 => (f_X5_get A x1 v2 (1 : Int32)).bind fun p6 => (f_X5_get A x1 v2 (2 : Int32)).bind fun p9 => (f_X5_get A x1 v2 (3 : Int32)).bind fun p12 => (f_X9_stand A v0 v1 p3 p6 p9 p12).bind fun p15 => some p15
set_option maxRecDepth 4000 in
theorem wb_X9_standAtAsk {g : GG} {n0 z0 : Nat} {A : LH} {v0 : Option Nat} {v1 : Option Nat} {v2 : Int32} {p : LH} (h : b_X9_standAtAsk A v0 v1 v2 = some p) : V g m_X9_standAtAsk 4 n0 z0 none p A 0 [some (LR v0), some (LR v1), some (LI v2)] [] := by
  unfold b_X9_standAtAsk at h
  refine V.aload_n dX9_standAtAsk_0 rfl rfl ?_
  obtain ⟨x1, h2, h⟩ := bnd h
  refine V.getFN (gR_F h2) CF8 (Nat.le_of_ble_eq_true rfl) fl_RX9_68 dX9_standAtAsk_1 ?_
  refine V.astore_n (ls' := [some (LR v0), some (LR v1), some (LI v2), some (LR x1)]) dX9_standAtAsk_4 rfl (by decide) rfl rfl ?_
  refine V.aload_n dX9_standAtAsk_5 rfl rfl ?_
  refine V.aload_n dX9_standAtAsk_6 rfl rfl ?_
  refine V.aload_n dX9_standAtAsk_7 rfl rfl ?_
  refine V.iload_n dX9_standAtAsk_8 rfl rfl ?_
  refine V.iconst dX9_standAtAsk_9 ki_0 ?_
  obtain ⟨p3, h4, h⟩ := bnd h
  have w5 := w_X5_get (g := g) h4
  refine V.callVi (args := [LI v2, LI (0 : Int32)]) (st := [LR v1, LR v0]) w5.1 (oo_X5_get h4) mk_X5_get w5.2 vc_5 ml_RX9_34 im_X5_get se_X5_get rfl (Nat.le_of_ble_eq_true rfl) (by decide) rfl (Nat.le_of_ble_eq_true rfl) dX9_standAtAsk_10 ?_
  refine V.aload_n dX9_standAtAsk_13 rfl rfl ?_
  refine V.iload_n dX9_standAtAsk_14 rfl rfl ?_
  refine V.iconst dX9_standAtAsk_15 ki_1 ?_
  obtain ⟨p6, h7, h⟩ := bnd h
  have w8 := w_X5_get (g := g) h7
  refine V.callVi (args := [LI v2, LI (1 : Int32)]) (st := [LI p3, LR v1, LR v0]) w8.1 (oo_X5_get h7) mk_X5_get w8.2 vc_5 ml_RX9_34 im_X5_get se_X5_get rfl (Nat.le_of_ble_eq_true rfl) (by decide) rfl (Nat.le_of_ble_eq_true rfl) dX9_standAtAsk_16 ?_
  refine V.aload_n dX9_standAtAsk_19 rfl rfl ?_
  refine V.iload_n dX9_standAtAsk_20 rfl rfl ?_
  refine V.iconst dX9_standAtAsk_21 ki_2 ?_
  obtain ⟨p9, h10, h⟩ := bnd h
  have w11 := w_X5_get (g := g) h10
  refine V.callVi (args := [LI v2, LI (2 : Int32)]) (st := [LI p6, LI p3, LR v1, LR v0]) w11.1 (oo_X5_get h10) mk_X5_get w11.2 vc_5 ml_RX9_34 im_X5_get se_X5_get rfl (Nat.le_of_ble_eq_true rfl) (by decide) rfl (Nat.le_of_ble_eq_true rfl) dX9_standAtAsk_22 ?_
  refine V.aload_n dX9_standAtAsk_25 rfl rfl ?_
  refine V.iload_n dX9_standAtAsk_26 rfl rfl ?_
  refine V.iconst dX9_standAtAsk_27 ki_3 ?_
  obtain ⟨p12, h13, h⟩ := bnd h
  have w14 := w_X5_get (g := g) h13
  refine V.callVi (args := [LI v2, LI (3 : Int32)]) (st := [LI p9, LI p6, LI p3, LR v1, LR v0]) w14.1 (oo_X5_get h13) mk_X5_get w14.2 vc_5 ml_RX9_34 im_X5_get se_X5_get rfl (Nat.le_of_ble_eq_true rfl) (by decide) rfl (Nat.le_of_ble_eq_true rfl) dX9_standAtAsk_28 ?_
  obtain ⟨p15, h16, h⟩ := bnd h
  have w17 := w_X9_stand (g := g) h16
  refine V.callVv (args := [LR v1, LI p3, LI p6, LI p9, LI p12]) (st := []) w17.1 (oo_X9_stand h16) mk_X9_stand w17.2 vc_9 ml_RX9_71 im_X9_stand se_X9_stand rfl (Nat.le_of_ble_eq_true rfl) (by decide) rfl (Nat.le_of_ble_eq_true rfl) dX9_standAtAsk_31 ?_
  obtain rfl := Option.some.inj h
  exact V.return_ dX9_standAtAsk_34
def f_X9_standAtAsk (A : LH) (v0 : Option Nat) (v1 : Option Nat) (v2 : Int32) : Option (LH) := if isO A v0 9 = true then b_X9_standAtAsk A v0 v1 v2 else none
theorem w_X9_standAtAsk {g : GG} {A : LH} {v0 : Option Nat} {v1 : Option Nat} {v2 : Int32} {p : LH} (h : f_X9_standAtAsk A v0 v1 v2 = some p) : Ct g m_X9_standAtAsk 4 [LR v0, LR v1, LI v2] A none p := by
  unfold f_X9_standAtAsk at h
  obtain ⟨ho, h⟩ := ifN h
  exact ⟨wb_X9_standAtAsk h, trivial⟩
theorem oo_X9_standAtAsk {A : LH} {v0 : Option Nat} {v1 : Option Nat} {v2 : Int32} {p : LH} (h : f_X9_standAtAsk A v0 v1 v2 = some p) : isO A v0 9 = true := by unfold f_X9_standAtAsk at h; exact (ifN h).1
def b_X9_standAtCase (A : LH) (v0 : Option Nat) (v1 : Option Nat) (v2 : Int32) : Option (LH) :=
  (gR A v1 8 1).bind fun x1 => (gI A x1 5 3).bind fun x3 => if x3 ≤ 0 then some A else if x3 = 0 then none else if (4 : Int32) = 0 then none else if x3 = 0 then none else if (4 : Int32) = 0 then none else if x3 = 0 then none else (f_X9_stand A v0 v1 ((v2 / x3) / (4 : Int32)) ((v2 / x3) - (v2 / x3) / (4 : Int32) * (4 : Int32)) (v2 - v2 / x3 * x3) (0 : Int32)).bind fun p11 => some p11
set_option maxRecDepth 4000 in
theorem wb_X9_standAtCase {g : GG} {n0 z0 : Nat} {A : LH} {v0 : Option Nat} {v1 : Option Nat} {v2 : Int32} {p : LH} (h : b_X9_standAtCase A v0 v1 v2 = some p) : V g m_X9_standAtCase 4 n0 z0 none p A 0 [some (LR v0), some (LR v1), some (LI v2)] [] := by
  unfold b_X9_standAtCase at h
  refine V.aload_n dX9_standAtCase_0 rfl rfl ?_
  obtain ⟨x1, h2, h⟩ := bnd h
  refine V.getFN (gR_F h2) CF8 (Nat.le_of_ble_eq_true rfl) fl_RX9_55 dX9_standAtCase_1 ?_
  obtain ⟨x3, h4, h⟩ := bnd h
  refine V.getFN (gI_F h4) CF5 (Nat.le_of_ble_eq_true rfl) fl_RX9_75 dX9_standAtCase_4 ?_
  refine V.istore_n (ls' := [some (LR v0), some (LR v1), some (LI v2), some (LI x3)]) dX9_standAtCase_7 rfl (by decide) rfl rfl ?_
  refine V.iload_n dX9_standAtCase_8 rfl rfl ?_
  refine V.if_le (tgt := 31) dX9_standAtCase_9 (by decide) (fun c5 => ?_) (fun c5 => ?_)
  · have h := (if_pos c5).symm.trans h
    obtain rfl := Option.some.inj h
    exact V.return_ dX9_standAtCase_31
  · have h := (if_neg c5).symm.trans h
    refine V.aload_n dX9_standAtCase_12 rfl rfl ?_
    refine V.aload_n dX9_standAtCase_13 rfl rfl ?_
    refine V.iload_n dX9_standAtCase_14 rfl rfl ?_
    refine V.iload_n dX9_standAtCase_15 rfl rfl ?_
    obtain ⟨c6, h⟩ := ifM h
    refine V.idiv c6 dX9_standAtCase_16 ?_
    refine V.iconst dX9_standAtCase_17 ki_4 ?_
    obtain ⟨c7, h⟩ := ifM h
    refine V.idiv c7 dX9_standAtCase_18 ?_
    refine V.iload_n dX9_standAtCase_19 rfl rfl ?_
    refine V.iload_n dX9_standAtCase_20 rfl rfl ?_
    obtain ⟨c8, h⟩ := ifM h
    refine V.idiv c8 dX9_standAtCase_21 ?_
    refine V.iconst dX9_standAtCase_22 ki_4 ?_
    obtain ⟨c9, h⟩ := ifM h
    refine V.irem c9 dX9_standAtCase_23 ?_
    refine V.iload_n dX9_standAtCase_24 rfl rfl ?_
    refine V.iload_n dX9_standAtCase_25 rfl rfl ?_
    obtain ⟨c10, h⟩ := ifM h
    refine V.irem c10 dX9_standAtCase_26 ?_
    refine V.iconst dX9_standAtCase_27 ki_0 ?_
    obtain ⟨p11, h12, h⟩ := bnd h
    have w13 := w_X9_stand (g := g) h12
    refine V.callVv (args := [LR v1, LI ((v2 / x3) / (4 : Int32)), LI ((v2 / x3) - (v2 / x3) / (4 : Int32) * (4 : Int32)), LI (v2 - v2 / x3 * x3), LI (0 : Int32)]) (st := []) w13.1 (oo_X9_stand h12) mk_X9_stand w13.2 vc_9 ml_RX9_71 im_X9_stand se_X9_stand rfl (Nat.le_of_ble_eq_true rfl) (by decide) rfl (Nat.le_of_ble_eq_true rfl) dX9_standAtCase_28 ?_
    obtain rfl := Option.some.inj h
    exact V.return_ dX9_standAtCase_31
def f_X9_standAtCase (A : LH) (v0 : Option Nat) (v1 : Option Nat) (v2 : Int32) : Option (LH) := if isO A v0 9 = true then b_X9_standAtCase A v0 v1 v2 else none
theorem w_X9_standAtCase {g : GG} {A : LH} {v0 : Option Nat} {v1 : Option Nat} {v2 : Int32} {p : LH} (h : f_X9_standAtCase A v0 v1 v2 = some p) : Ct g m_X9_standAtCase 4 [LR v0, LR v1, LI v2] A none p := by
  unfold f_X9_standAtCase at h
  obtain ⟨ho, h⟩ := ifN h
  exact ⟨wb_X9_standAtCase h, trivial⟩
theorem oo_X9_standAtCase {A : LH} {v0 : Option Nat} {v1 : Option Nat} {v2 : Int32} {p : LH} (h : f_X9_standAtCase A v0 v1 v2 = some p) : isO A v0 9 = true := by unfold f_X9_standAtCase at h; exact (ifN h).1
def b_X9_toldAt (A : LH) (v0 : Option Nat) (v1 : Int32) (v2 : Int32) : Option (Int32) :=
  if v2 = 0 then (gI A v0 9 2).bind fun x2 => some x2 else if v2 = 1 then (gI A v0 9 3).bind fun x5 => some x5 else if v2 = 2 then (gI A v0 9 4).bind fun x8 => some x8 else if v2 = 3 then some v1 else some (-1 : Int32)
set_option maxRecDepth 4000 in
theorem wb_X9_toldAt {g : GG} {n0 z0 : Nat} {A : LH} {v0 : Option Nat} {v1 : Int32} {v2 : Int32} {p : Int32} (h : b_X9_toldAt A v0 v1 v2 = some p) : V g m_X9_toldAt 0 n0 z0 (some (LI p)) A A 0 [some (LR v0), some (LI v1), some (LI v2)] [] := by
  unfold b_X9_toldAt at h
  refine V.iload_n dX9_toldAt_0 rfl rfl ?_
  by_cases c1 : v2 = 0
  · have h := (if_pos c1).symm.trans h
    refine V.tableIn (tgt := 32) (off := 31) dX9_toldAt_1 (by rw [c1]; decide) (by rw [c1]; decide) (by rw [c1]; decide) (by decide) ?_
    refine V.aload_n dX9_toldAt_32 rfl rfl ?_
    obtain ⟨x2, h3, h⟩ := bnd h
    refine V.getF (gI_F h3) CF9 (Nat.le_of_ble_eq_true rfl) fl_RX9_15 dX9_toldAt_33 ?_
    obtain rfl := Option.some.inj h
    exact V.ireturn dX9_toldAt_36
  have h := (if_neg c1).symm.trans h
  by_cases c4 : v2 = 1
  · have h := (if_pos c4).symm.trans h
    refine V.tableIn (tgt := 37) (off := 36) dX9_toldAt_1 (by rw [c4]; decide) (by rw [c4]; decide) (by rw [c4]; decide) (by decide) ?_
    refine V.aload_n dX9_toldAt_37 rfl rfl ?_
    obtain ⟨x5, h6, h⟩ := bnd h
    refine V.getF (gI_F h6) CF9 (Nat.le_of_ble_eq_true rfl) fl_RX9_19 dX9_toldAt_38 ?_
    obtain rfl := Option.some.inj h
    exact V.ireturn dX9_toldAt_41
  have h := (if_neg c4).symm.trans h
  by_cases c7 : v2 = 2
  · have h := (if_pos c7).symm.trans h
    refine V.tableIn (tgt := 42) (off := 41) dX9_toldAt_1 (by rw [c7]; decide) (by rw [c7]; decide) (by rw [c7]; decide) (by decide) ?_
    refine V.aload_n dX9_toldAt_42 rfl rfl ?_
    obtain ⟨x8, h9, h⟩ := bnd h
    refine V.getF (gI_F h9) CF9 (Nat.le_of_ble_eq_true rfl) fl_RX9_22 dX9_toldAt_43 ?_
    obtain rfl := Option.some.inj h
    exact V.ireturn dX9_toldAt_46
  have h := (if_neg c7).symm.trans h
  by_cases c10 : v2 = 3
  · have h := (if_pos c10).symm.trans h
    refine V.tableIn (tgt := 47) (off := 46) dX9_toldAt_1 (by rw [c10]; decide) (by rw [c10]; decide) (by rw [c10]; decide) (by decide) ?_
    refine V.iload_n dX9_toldAt_47 rfl rfl ?_
    obtain rfl := Option.some.inj h
    exact V.ireturn dX9_toldAt_48
  have h := (if_neg c10).symm.trans h
  refine V.tableOut (tgt := 49) dX9_toldAt_1 (sw_out (n := 4) [0, 1, 2, 3] (by decide) (List.forall_mem_cons.mpr ⟨c1, List.forall_mem_cons.mpr ⟨c4, List.forall_mem_cons.mpr ⟨c7, List.forall_mem_cons.mpr ⟨c10, fun _ z => nomatch z⟩⟩⟩⟩)) (by decide) ?_
  refine V.iconst dX9_toldAt_49 ki_m1 ?_
  obtain rfl := Option.some.inj h
  exact V.ireturn dX9_toldAt_50
def f_X9_toldAt (A : LH) (v0 : Option Nat) (v1 : Int32) (v2 : Int32) : Option (Int32) := if isO A v0 9 = true then b_X9_toldAt A v0 v1 v2 else none
theorem w_X9_toldAt {g : GG} {A : LH} {v0 : Option Nat} {v1 : Int32} {v2 : Int32} {p : Int32} (h : f_X9_toldAt A v0 v1 v2 = some p) : Ct g m_X9_toldAt 0 [LR v0, LI v1, LI v2] A (some (LI p)) A := by
  unfold f_X9_toldAt at h
  obtain ⟨ho, h⟩ := ifN h
  exact ⟨wb_X9_toldAt h, rfl⟩
theorem oo_X9_toldAt {A : LH} {v0 : Option Nat} {v1 : Int32} {v2 : Int32} {p : Int32} (h : f_X9_toldAt A v0 v1 v2 = some p) : isO A v0 9 = true := by unfold f_X9_toldAt at h; exact (ifN h).1
def b_X9_holdsAct (A : LH) (v0 : Option Nat) (v1 : Option Nat) : Option (Int32) :=
  (gI A v1 0 3).bind fun x1 => if x1 = (4 : Int32) then some (1 : Int32) else (gI A v1 0 3).bind fun x4 => (gI A v0 9 3).bind fun x6 => if x4 = x6 then some (1 : Int32) else some (0 : Int32)
set_option maxRecDepth 4000 in
theorem wb_X9_holdsAct {g : GG} {n0 z0 : Nat} {A : LH} {v0 : Option Nat} {v1 : Option Nat} {p : Int32} (h : b_X9_holdsAct A v0 v1 = some p) : V g m_X9_holdsAct 0 n0 z0 (some (LI p)) A A 0 [some (LR v0), some (LR v1)] [] := by
  unfold b_X9_holdsAct at h
  refine V.aload_n dX9_holdsAct_0 rfl rfl ?_
  obtain ⟨x1, h2, h⟩ := bnd h
  refine V.getFN (gI_F h2) CF0 (Nat.le_of_ble_eq_true rfl) fl_RX9_126 dX9_holdsAct_1 ?_
  refine V.iconst dX9_holdsAct_4 ki_4 ?_
  refine V.icmp_eq (tgt := 19) dX9_holdsAct_5 (by decide) (fun c3 => ?_) (fun c3 => ?_)
  · have h := (if_pos c3).symm.trans h
    refine V.iconst dX9_holdsAct_19 ki_1 ?_
    refine V.goto (tgt := 24) dX9_holdsAct_20 (by decide) ?_
    obtain rfl := Option.some.inj h
    exact V.ireturn dX9_holdsAct_24
  · have h := (if_neg c3).symm.trans h
    refine V.aload_n dX9_holdsAct_8 rfl rfl ?_
    obtain ⟨x4, h5, h⟩ := bnd h
    refine V.getFN (gI_F h5) CF0 (Nat.le_of_ble_eq_true rfl) fl_RX9_126 dX9_holdsAct_9 ?_
    refine V.aload_n dX9_holdsAct_12 rfl rfl ?_
    obtain ⟨x6, h7, h⟩ := bnd h
    refine V.getF (gI_F h7) CF9 (Nat.le_of_ble_eq_true rfl) fl_RX9_19 dX9_holdsAct_13 ?_
    refine V.icmp_ne (tgt := 23) dX9_holdsAct_16 (by decide) (fun c8 => ?_) (fun c8 => ?_)
    · have h := (if_neg c8).symm.trans h
      refine V.iconst dX9_holdsAct_23 ki_0 ?_
      obtain rfl := Option.some.inj h
      exact V.ireturn dX9_holdsAct_24
    · have h := (if_pos c8).symm.trans h
      refine V.iconst dX9_holdsAct_19 ki_1 ?_
      refine V.goto (tgt := 24) dX9_holdsAct_20 (by decide) ?_
      obtain rfl := Option.some.inj h
      exact V.ireturn dX9_holdsAct_24
def f_X9_holdsAct (A : LH) (v0 : Option Nat) (v1 : Option Nat) : Option (Int32) := if isO A v0 9 = true then zd (b_X9_holdsAct A v0 v1) else none
theorem w_X9_holdsAct {g : GG} {A : LH} {v0 : Option Nat} {v1 : Option Nat} {p : Int32} (h : f_X9_holdsAct A v0 v1 = some p) : Ct g m_X9_holdsAct 0 [LR v0, LR v1] A (some (LI p)) A := by
  unfold f_X9_holdsAct at h
  obtain ⟨ho, h⟩ := ifN h
  obtain ⟨h, hz⟩ := zd_sp h
  exact ⟨wb_X9_holdsAct h, (RTz hz)⟩
theorem oo_X9_holdsAct {A : LH} {v0 : Option Nat} {v1 : Option Nat} {p : Int32} (h : f_X9_holdsAct A v0 v1 = some p) : isO A v0 9 = true := by unfold f_X9_holdsAct at h; exact (ifN h).1
def b_X9_holdsWhat (A : LH) (v0 : Option Nat) (v1 : Option Nat) : Option (Int32) :=
  (gI A v1 0 4).bind fun x1 => if x1 = 0 then some (1 : Int32) else if x1 = 1 then (gI A v0 9 9).bind fun x5 => (gI A v1 0 5).bind fun x7 => if x5 = x7 then some (1 : Int32) else some (0 : Int32) else if x1 = 2 then (gI A v0 9 4).bind fun x11 => (gI A v1 0 5).bind fun x13 => if x11 = x13 then some (1 : Int32) else some (0 : Int32) else (gI A v0 9 10).bind fun x16 => (gI A v1 0 5).bind fun x18 => if x16 < x18 then some (0 : Int32) else some (1 : Int32)
set_option maxRecDepth 4000 in
theorem wb_X9_holdsWhat {g : GG} {n0 z0 : Nat} {A : LH} {v0 : Option Nat} {v1 : Option Nat} {p : Int32} (h : b_X9_holdsWhat A v0 v1 = some p) : V g m_X9_holdsWhat 0 n0 z0 (some (LI p)) A A 0 [some (LR v0), some (LR v1)] [] := by
  unfold b_X9_holdsWhat at h
  refine V.aload_n dX9_holdsWhat_0 rfl rfl ?_
  obtain ⟨x1, h2, h⟩ := bnd h
  refine V.getFN (gI_F h2) CF0 (Nat.le_of_ble_eq_true rfl) fl_RX9_133 dX9_holdsWhat_1 ?_
  by_cases c3 : x1 = 0
  · have h := (if_pos c3).symm.trans h
    refine V.tableIn (tgt := 32) (off := 28) dX9_holdsWhat_4 (by rw [c3]; decide) (by rw [c3]; decide) (by rw [c3]; decide) (by decide) ?_
    refine V.iconst dX9_holdsWhat_32 ki_1 ?_
    obtain rfl := Option.some.inj h
    exact V.ireturn dX9_holdsWhat_33
  have h := (if_neg c3).symm.trans h
  by_cases c4 : x1 = 1
  · have h := (if_pos c4).symm.trans h
    refine V.tableIn (tgt := 34) (off := 30) dX9_holdsWhat_4 (by rw [c4]; decide) (by rw [c4]; decide) (by rw [c4]; decide) (by decide) ?_
    refine V.aload_n dX9_holdsWhat_34 rfl rfl ?_
    obtain ⟨x5, h6, h⟩ := bnd h
    refine V.getF (gI_F h6) CF9 (Nat.le_of_ble_eq_true rfl) fl_RX9_58 dX9_holdsWhat_35 ?_
    refine V.aload_n dX9_holdsWhat_38 rfl rfl ?_
    obtain ⟨x7, h8, h⟩ := bnd h
    refine V.getFN (gI_F h8) CF0 (Nat.le_of_ble_eq_true rfl) fl_RX9_136 dX9_holdsWhat_39 ?_
    refine V.icmp_ne (tgt := 49) dX9_holdsWhat_42 (by decide) (fun c9 => ?_) (fun c9 => ?_)
    · have h := (if_neg c9).symm.trans h
      refine V.iconst dX9_holdsWhat_49 ki_0 ?_
      obtain rfl := Option.some.inj h
      exact V.ireturn dX9_holdsWhat_50
    · have h := (if_pos c9).symm.trans h
      refine V.iconst dX9_holdsWhat_45 ki_1 ?_
      refine V.goto (tgt := 50) dX9_holdsWhat_46 (by decide) ?_
      obtain rfl := Option.some.inj h
      exact V.ireturn dX9_holdsWhat_50
  have h := (if_neg c4).symm.trans h
  by_cases c10 : x1 = 2
  · have h := (if_pos c10).symm.trans h
    refine V.tableIn (tgt := 51) (off := 47) dX9_holdsWhat_4 (by rw [c10]; decide) (by rw [c10]; decide) (by rw [c10]; decide) (by decide) ?_
    refine V.aload_n dX9_holdsWhat_51 rfl rfl ?_
    obtain ⟨x11, h12, h⟩ := bnd h
    refine V.getF (gI_F h12) CF9 (Nat.le_of_ble_eq_true rfl) fl_RX9_22 dX9_holdsWhat_52 ?_
    refine V.aload_n dX9_holdsWhat_55 rfl rfl ?_
    obtain ⟨x13, h14, h⟩ := bnd h
    refine V.getFN (gI_F h14) CF0 (Nat.le_of_ble_eq_true rfl) fl_RX9_136 dX9_holdsWhat_56 ?_
    refine V.icmp_ne (tgt := 66) dX9_holdsWhat_59 (by decide) (fun c15 => ?_) (fun c15 => ?_)
    · have h := (if_neg c15).symm.trans h
      refine V.iconst dX9_holdsWhat_66 ki_0 ?_
      obtain rfl := Option.some.inj h
      exact V.ireturn dX9_holdsWhat_67
    · have h := (if_pos c15).symm.trans h
      refine V.iconst dX9_holdsWhat_62 ki_1 ?_
      refine V.goto (tgt := 67) dX9_holdsWhat_63 (by decide) ?_
      obtain rfl := Option.some.inj h
      exact V.ireturn dX9_holdsWhat_67
  have h := (if_neg c10).symm.trans h
  refine V.tableOut (tgt := 68) dX9_holdsWhat_4 (sw_out (n := 3) [0, 1, 2] (by decide) (List.forall_mem_cons.mpr ⟨c3, List.forall_mem_cons.mpr ⟨c4, List.forall_mem_cons.mpr ⟨c10, fun _ z => nomatch z⟩⟩⟩)) (by decide) ?_
  refine V.aload_n dX9_holdsWhat_68 rfl rfl ?_
  obtain ⟨x16, h17, h⟩ := bnd h
  refine V.getF (gI_F h17) CF9 (Nat.le_of_ble_eq_true rfl) fl_RX9_61 dX9_holdsWhat_69 ?_
  refine V.aload_n dX9_holdsWhat_72 rfl rfl ?_
  obtain ⟨x18, h19, h⟩ := bnd h
  refine V.getFN (gI_F h19) CF0 (Nat.le_of_ble_eq_true rfl) fl_RX9_136 dX9_holdsWhat_73 ?_
  refine V.icmp_lt (tgt := 83) dX9_holdsWhat_76 (by decide) (fun c20 => ?_) (fun c20 => ?_)
  · have h := (if_pos c20).symm.trans h
    refine V.iconst dX9_holdsWhat_83 ki_0 ?_
    obtain rfl := Option.some.inj h
    exact V.ireturn dX9_holdsWhat_84
  · have h := (if_neg c20).symm.trans h
    refine V.iconst dX9_holdsWhat_79 ki_1 ?_
    refine V.goto (tgt := 84) dX9_holdsWhat_80 (by decide) ?_
    obtain rfl := Option.some.inj h
    exact V.ireturn dX9_holdsWhat_84
def f_X9_holdsWhat (A : LH) (v0 : Option Nat) (v1 : Option Nat) : Option (Int32) := if isO A v0 9 = true then zd (b_X9_holdsWhat A v0 v1) else none
theorem w_X9_holdsWhat {g : GG} {A : LH} {v0 : Option Nat} {v1 : Option Nat} {p : Int32} (h : f_X9_holdsWhat A v0 v1 = some p) : Ct g m_X9_holdsWhat 0 [LR v0, LR v1] A (some (LI p)) A := by
  unfold f_X9_holdsWhat at h
  obtain ⟨ho, h⟩ := ifN h
  obtain ⟨h, hz⟩ := zd_sp h
  exact ⟨wb_X9_holdsWhat h, (RTz hz)⟩
theorem oo_X9_holdsWhat {A : LH} {v0 : Option Nat} {v1 : Option Nat} {p : Int32} (h : f_X9_holdsWhat A v0 v1 = some p) : isO A v0 9 = true := by unfold f_X9_holdsWhat at h; exact (ifN h).1
def b_X9_holdsWho (A : LH) (v0 : Option Nat) (v1 : Option Nat) : Option (Int32) :=
  (gI A v1 0 1).bind fun x1 => if x1 = 0 then some (1 : Int32) else if x1 = 1 then (gI A v0 9 6).bind fun x5 => (gI A v1 0 2).bind fun x7 => (f_X10_hasBit x5 x7).bind fun p9 => some p9 else if x1 = 2 then (gI A v0 9 2).bind fun x13 => (gI A v1 0 2).bind fun x15 => if x13 = x15 then some (1 : Int32) else some (0 : Int32) else if x1 = 3 then (gI A v0 9 11).bind fun x19 => some x19 else (gI A v0 9 8).bind fun x21 => (gI A v1 0 2).bind fun x23 => if x21 < x23 then some (0 : Int32) else some (1 : Int32)
set_option maxRecDepth 4000 in
theorem wb_X9_holdsWho {g : GG} {n0 z0 : Nat} {A : LH} {v0 : Option Nat} {v1 : Option Nat} {p : Int32} (h : b_X9_holdsWho A v0 v1 = some p) : V g m_X9_holdsWho 1 n0 z0 (some (LI p)) A A 0 [some (LR v0), some (LR v1)] [] := by
  unfold b_X9_holdsWho at h
  refine V.aload_n dX9_holdsWho_0 rfl rfl ?_
  obtain ⟨x1, h2, h⟩ := bnd h
  refine V.getFN (gI_F h2) CF0 (Nat.le_of_ble_eq_true rfl) fl_RX9_127 dX9_holdsWho_1 ?_
  by_cases c3 : x1 = 0
  · have h := (if_pos c3).symm.trans h
    refine V.tableIn (tgt := 36) (off := 32) dX9_holdsWho_4 (by rw [c3]; decide) (by rw [c3]; decide) (by rw [c3]; decide) (by decide) ?_
    refine V.iconst dX9_holdsWho_36 ki_1 ?_
    obtain rfl := Option.some.inj h
    exact V.ireturn dX9_holdsWho_37
  have h := (if_neg c3).symm.trans h
  by_cases c4 : x1 = 1
  · have h := (if_pos c4).symm.trans h
    refine V.tableIn (tgt := 38) (off := 34) dX9_holdsWho_4 (by rw [c4]; decide) (by rw [c4]; decide) (by rw [c4]; decide) (by decide) ?_
    refine V.aload_n dX9_holdsWho_38 rfl rfl ?_
    obtain ⟨x5, h6, h⟩ := bnd h
    refine V.getF (gI_F h6) CF9 (Nat.le_of_ble_eq_true rfl) fl_RX9_40 dX9_holdsWho_39 ?_
    refine V.aload_n dX9_holdsWho_42 rfl rfl ?_
    obtain ⟨x7, h8, h⟩ := bnd h
    refine V.getFN (gI_F h8) CF0 (Nat.le_of_ble_eq_true rfl) fl_RX9_130 dX9_holdsWho_43 ?_
    obtain ⟨p9, h10, h⟩ := bnd h
    have w11 := w_X10_hasBit (g := g) (A := A) h10
    refine V.callSNi (args := [LI x5, LI x7]) (st := []) w11.1 mk_X10_hasBit w11.2 ml_RX9_91 sm_X10_hasBit rfl (Nat.le_of_ble_eq_true rfl) (by decide) rfl (Nat.le_of_ble_eq_true rfl) dX9_holdsWho_46 ?_
    obtain rfl := Option.some.inj h
    exact V.ireturn dX9_holdsWho_49
  have h := (if_neg c4).symm.trans h
  by_cases c12 : x1 = 2
  · have h := (if_pos c12).symm.trans h
    refine V.tableIn (tgt := 50) (off := 46) dX9_holdsWho_4 (by rw [c12]; decide) (by rw [c12]; decide) (by rw [c12]; decide) (by decide) ?_
    refine V.aload_n dX9_holdsWho_50 rfl rfl ?_
    obtain ⟨x13, h14, h⟩ := bnd h
    refine V.getF (gI_F h14) CF9 (Nat.le_of_ble_eq_true rfl) fl_RX9_15 dX9_holdsWho_51 ?_
    refine V.aload_n dX9_holdsWho_54 rfl rfl ?_
    obtain ⟨x15, h16, h⟩ := bnd h
    refine V.getFN (gI_F h16) CF0 (Nat.le_of_ble_eq_true rfl) fl_RX9_130 dX9_holdsWho_55 ?_
    refine V.icmp_ne (tgt := 65) dX9_holdsWho_58 (by decide) (fun c17 => ?_) (fun c17 => ?_)
    · have h := (if_neg c17).symm.trans h
      refine V.iconst dX9_holdsWho_65 ki_0 ?_
      obtain rfl := Option.some.inj h
      exact V.ireturn dX9_holdsWho_66
    · have h := (if_pos c17).symm.trans h
      refine V.iconst dX9_holdsWho_61 ki_1 ?_
      refine V.goto (tgt := 66) dX9_holdsWho_62 (by decide) ?_
      obtain rfl := Option.some.inj h
      exact V.ireturn dX9_holdsWho_66
  have h := (if_neg c12).symm.trans h
  by_cases c18 : x1 = 3
  · have h := (if_pos c18).symm.trans h
    refine V.tableIn (tgt := 67) (off := 63) dX9_holdsWho_4 (by rw [c18]; decide) (by rw [c18]; decide) (by rw [c18]; decide) (by decide) ?_
    refine V.aload_n dX9_holdsWho_67 rfl rfl ?_
    obtain ⟨x19, h20, h⟩ := bnd h
    refine V.getF (gI_F h20) CF9 (Nat.le_of_ble_eq_true rfl) fl_RX9_64 dX9_holdsWho_68 ?_
    obtain rfl := Option.some.inj h
    exact V.ireturn dX9_holdsWho_71
  have h := (if_neg c18).symm.trans h
  refine V.tableOut (tgt := 72) dX9_holdsWho_4 (sw_out (n := 4) [0, 1, 2, 3] (by decide) (List.forall_mem_cons.mpr ⟨c3, List.forall_mem_cons.mpr ⟨c4, List.forall_mem_cons.mpr ⟨c12, List.forall_mem_cons.mpr ⟨c18, fun _ z => nomatch z⟩⟩⟩⟩)) (by decide) ?_
  refine V.aload_n dX9_holdsWho_72 rfl rfl ?_
  obtain ⟨x21, h22, h⟩ := bnd h
  refine V.getF (gI_F h22) CF9 (Nat.le_of_ble_eq_true rfl) fl_RX9_52 dX9_holdsWho_73 ?_
  refine V.aload_n dX9_holdsWho_76 rfl rfl ?_
  obtain ⟨x23, h24, h⟩ := bnd h
  refine V.getFN (gI_F h24) CF0 (Nat.le_of_ble_eq_true rfl) fl_RX9_130 dX9_holdsWho_77 ?_
  refine V.icmp_lt (tgt := 87) dX9_holdsWho_80 (by decide) (fun c25 => ?_) (fun c25 => ?_)
  · have h := (if_pos c25).symm.trans h
    refine V.iconst dX9_holdsWho_87 ki_0 ?_
    obtain rfl := Option.some.inj h
    exact V.ireturn dX9_holdsWho_88
  · have h := (if_neg c25).symm.trans h
    refine V.iconst dX9_holdsWho_83 ki_1 ?_
    refine V.goto (tgt := 88) dX9_holdsWho_84 (by decide) ?_
    obtain rfl := Option.some.inj h
    exact V.ireturn dX9_holdsWho_88
def f_X9_holdsWho (A : LH) (v0 : Option Nat) (v1 : Option Nat) : Option (Int32) := if isO A v0 9 = true then zd (b_X9_holdsWho A v0 v1) else none
theorem w_X9_holdsWho {g : GG} {A : LH} {v0 : Option Nat} {v1 : Option Nat} {p : Int32} (h : f_X9_holdsWho A v0 v1 = some p) : Ct g m_X9_holdsWho 1 [LR v0, LR v1] A (some (LI p)) A := by
  unfold f_X9_holdsWho at h
  obtain ⟨ho, h⟩ := ifN h
  obtain ⟨h, hz⟩ := zd_sp h
  exact ⟨wb_X9_holdsWho h, (RTz hz)⟩
theorem oo_X9_holdsWho {A : LH} {v0 : Option Nat} {v1 : Option Nat} {p : Int32} (h : f_X9_holdsWho A v0 v1 = some p) : isO A v0 9 = true := by unfold f_X9_holdsWho at h; exact (ifN h).1
def b_X9_hoursBelow (v0 : Int32) : Option (Int32) :=
  if v0 < (24 : Int32) then some (((1 : Int32) <<< (v0 &&& 31)) - (1 : Int32)) else some (16777215 : Int32)
set_option maxRecDepth 4000 in
theorem wb_X9_hoursBelow {g : GG} {n0 z0 : Nat} {A : LH} {v0 : Int32} {p : Int32} (h : b_X9_hoursBelow v0 = some p) : V g m_X9_hoursBelow 0 n0 z0 (some (LI p)) A A 0 [some (LI v0)] [] := by
  unfold b_X9_hoursBelow at h
  refine V.iload_n dX9_hoursBelow_0 rfl rfl ?_
  refine V.bipush dX9_hoursBelow_1 kb_24 ?_
  refine V.icmp_lt (tgt := 11) dX9_hoursBelow_3 (by decide) (fun c1 => ?_) (fun c1 => ?_)
  · have h := (if_pos c1).symm.trans h
    refine V.iconst dX9_hoursBelow_11 ki_1 ?_
    refine V.iload_n dX9_hoursBelow_12 rfl rfl ?_
    refine V.ishl dX9_hoursBelow_13 ?_
    refine V.iconst dX9_hoursBelow_14 ki_1 ?_
    refine V.isub dX9_hoursBelow_15 ?_
    obtain rfl := Option.some.inj h
    exact V.ireturn dX9_hoursBelow_16
  · have h := (if_neg c1).symm.trans h
    refine V.ldc kc_RX9_108 dX9_hoursBelow_6 ?_
    refine V.goto (tgt := 16) dX9_hoursBelow_8 (by decide) ?_
    obtain rfl := Option.some.inj h
    exact V.ireturn dX9_hoursBelow_16
def f_X9_hoursBelow (v0 : Int32) : Option (Int32) := b_X9_hoursBelow v0
theorem w_X9_hoursBelow {g : GG} {A : LH} {v0 : Int32} {p : Int32} (h : f_X9_hoursBelow v0 = some p) : Ct g m_X9_hoursBelow 0 [LI v0] A (some (LI p)) A := by
  unfold f_X9_hoursBelow at h
  exact ⟨wb_X9_hoursBelow h, rfl⟩
def b_X9_value (A : LH) (v0 : Option Nat) (v1 : Int32) : Option (Int32) :=
  if v1 = 1001 then (gI A v0 9 8).bind fun x2 => some x2 else if v1 = 1002 then (gI A v0 9 10).bind fun x5 => some x5 else if v1 = 1003 then (gI A v0 9 9).bind fun x8 => some x8 else if v1 = 1004 then (gI A v0 9 7).bind fun x11 => some x11 else some v1
set_option maxRecDepth 4000 in
theorem wb_X9_value {g : GG} {n0 z0 : Nat} {A : LH} {v0 : Option Nat} {v1 : Int32} {p : Int32} (h : b_X9_value A v0 v1 = some p) : V g m_X9_value 0 n0 z0 (some (LI p)) A A 0 [some (LR v0), some (LI v1)] [] := by
  unfold b_X9_value at h
  refine V.iload_n dX9_value_0 rfl rfl ?_
  by_cases c1 : v1 = 1001
  · have h := (if_pos c1).symm.trans h
    refine V.tableIn (tgt := 32) (off := 31) dX9_value_1 (by rw [c1]; decide) (by rw [c1]; decide) (by rw [c1]; decide) (by decide) ?_
    refine V.aload_n dX9_value_32 rfl rfl ?_
    obtain ⟨x2, h3, h⟩ := bnd h
    refine V.getF (gI_F h3) CF9 (Nat.le_of_ble_eq_true rfl) fl_RX9_52 dX9_value_33 ?_
    obtain rfl := Option.some.inj h
    exact V.ireturn dX9_value_36
  have h := (if_neg c1).symm.trans h
  by_cases c4 : v1 = 1002
  · have h := (if_pos c4).symm.trans h
    refine V.tableIn (tgt := 37) (off := 36) dX9_value_1 (by rw [c4]; decide) (by rw [c4]; decide) (by rw [c4]; decide) (by decide) ?_
    refine V.aload_n dX9_value_37 rfl rfl ?_
    obtain ⟨x5, h6, h⟩ := bnd h
    refine V.getF (gI_F h6) CF9 (Nat.le_of_ble_eq_true rfl) fl_RX9_61 dX9_value_38 ?_
    obtain rfl := Option.some.inj h
    exact V.ireturn dX9_value_41
  have h := (if_neg c4).symm.trans h
  by_cases c7 : v1 = 1003
  · have h := (if_pos c7).symm.trans h
    refine V.tableIn (tgt := 42) (off := 41) dX9_value_1 (by rw [c7]; decide) (by rw [c7]; decide) (by rw [c7]; decide) (by decide) ?_
    refine V.aload_n dX9_value_42 rfl rfl ?_
    obtain ⟨x8, h9, h⟩ := bnd h
    refine V.getF (gI_F h9) CF9 (Nat.le_of_ble_eq_true rfl) fl_RX9_58 dX9_value_43 ?_
    obtain rfl := Option.some.inj h
    exact V.ireturn dX9_value_46
  have h := (if_neg c7).symm.trans h
  by_cases c10 : v1 = 1004
  · have h := (if_pos c10).symm.trans h
    refine V.tableIn (tgt := 47) (off := 46) dX9_value_1 (by rw [c10]; decide) (by rw [c10]; decide) (by rw [c10]; decide) (by decide) ?_
    refine V.aload_n dX9_value_47 rfl rfl ?_
    obtain ⟨x11, h12, h⟩ := bnd h
    refine V.getF (gI_F h12) CF9 (Nat.le_of_ble_eq_true rfl) fl_RX9_49 dX9_value_48 ?_
    obtain rfl := Option.some.inj h
    exact V.ireturn dX9_value_51
  have h := (if_neg c10).symm.trans h
  refine V.tableOut (tgt := 52) dX9_value_1 (sw_out (n := 4) [1001, 1002, 1003, 1004] (by decide) (List.forall_mem_cons.mpr ⟨c1, List.forall_mem_cons.mpr ⟨c4, List.forall_mem_cons.mpr ⟨c7, List.forall_mem_cons.mpr ⟨c10, fun _ z => nomatch z⟩⟩⟩⟩)) (by decide) ?_
  refine V.iload_n dX9_value_52 rfl rfl ?_
  obtain rfl := Option.some.inj h
  exact V.ireturn dX9_value_53
def f_X9_value (A : LH) (v0 : Option Nat) (v1 : Int32) : Option (Int32) := if isO A v0 9 = true then b_X9_value A v0 v1 else none
theorem w_X9_value {g : GG} {A : LH} {v0 : Option Nat} {v1 : Int32} {p : Int32} (h : f_X9_value A v0 v1 = some p) : Ct g m_X9_value 0 [LR v0, LI v1] A (some (LI p)) A := by
  unfold f_X9_value at h
  obtain ⟨ho, h⟩ := ifN h
  exact ⟨wb_X9_value h, rfl⟩
theorem oo_X9_value {A : LH} {v0 : Option Nat} {v1 : Int32} {p : Int32} (h : f_X9_value A v0 v1 = some p) : isO A v0 9 = true := by unfold f_X9_value at h; exact (ifN h).1
def b_X9_hoursLess (A : LH) (v0 : Option Nat) (v1 : Int32) (v2 : Int32) : Option (Int32) :=
  if v1 = (1000 : Int32) then if v2 = (1000 : Int32) then some (0 : Int32) else (f_X9_value A v0 v2).bind fun p17 => (f_X9_hoursBelow p17).bind fun p20 => some p20 else if v2 = (1000 : Int32) then (f_X9_value A v0 v1).bind fun p10 => (f_X9_hoursBelow (p10 + (1 : Int32))).bind fun p13 => some ((16777215 : Int32) &&& (p13 ^^^ (-1 : Int32))) else (f_X9_value A v0 v1).bind fun p3 => (f_X9_value A v0 v2).bind fun p6 => if p6 ≤ p3 then some (0 : Int32) else some (16777215 : Int32)
set_option maxRecDepth 4000 in
theorem wb_X9_hoursLess {g : GG} {n0 z0 : Nat} {A : LH} {v0 : Option Nat} {v1 : Int32} {v2 : Int32} {p : Int32} (h : b_X9_hoursLess A v0 v1 v2 = some p) : V g m_X9_hoursLess 1 n0 z0 (some (LI p)) A A 0 [some (LR v0), some (LI v1), some (LI v2)] [] := by
  unfold b_X9_hoursLess at h
  refine V.iload_n dX9_hoursLess_0 rfl rfl ?_
  refine V.sipush dX9_hoursLess_1 ks_1000 ?_
  refine V.icmp_ne (tgt := 27) dX9_hoursLess_4 (by decide) (fun c1 => ?_) (fun c1 => ?_)
  · have h := (if_neg c1).symm.trans h
    refine V.iload_n dX9_hoursLess_27 rfl rfl ?_
    refine V.sipush dX9_hoursLess_28 ks_1000 ?_
    refine V.icmp_ne (tgt := 50) dX9_hoursLess_31 (by decide) (fun c2 => ?_) (fun c2 => ?_)
    · have h := (if_neg c2).symm.trans h
      refine V.aload_n dX9_hoursLess_50 rfl rfl ?_
      refine V.iload_n dX9_hoursLess_51 rfl rfl ?_
      obtain ⟨p3, h4, h⟩ := bnd h
      have w5 := w_X9_value (g := g) h4
      refine V.callVi (args := [LI v1]) (st := []) w5.1 (oo_X9_value h4) mk_X9_value w5.2 vc_9 ml_RX9_165 im_X9_value se_X9_value rfl (Nat.le_of_ble_eq_true rfl) (by decide) rfl (Nat.le_of_ble_eq_true rfl) dX9_hoursLess_52 ?_
      refine V.aload_n dX9_hoursLess_55 rfl rfl ?_
      refine V.iload_n dX9_hoursLess_56 rfl rfl ?_
      obtain ⟨p6, h7, h⟩ := bnd h
      have w8 := w_X9_value (g := g) h7
      refine V.callVi (args := [LI v2]) (st := [LI p3]) w8.1 (oo_X9_value h7) mk_X9_value w8.2 vc_9 ml_RX9_165 im_X9_value se_X9_value rfl (Nat.le_of_ble_eq_true rfl) (by decide) rfl (Nat.le_of_ble_eq_true rfl) dX9_hoursLess_57 ?_
      refine V.icmp_ge (tgt := 68) dX9_hoursLess_60 (by decide) (fun c9 => ?_) (fun c9 => ?_)
      · have h := (if_pos c9).symm.trans h
        refine V.iconst dX9_hoursLess_68 ki_0 ?_
        obtain rfl := Option.some.inj h
        exact V.ireturn dX9_hoursLess_69
      · have h := (if_neg c9).symm.trans h
        refine V.ldc kc_RX9_108 dX9_hoursLess_63 ?_
        refine V.goto (tgt := 69) dX9_hoursLess_65 (by decide) ?_
        obtain rfl := Option.some.inj h
        exact V.ireturn dX9_hoursLess_69
    · have h := (if_pos c2).symm.trans h
      refine V.ldc kc_RX9_108 dX9_hoursLess_34 ?_
      refine V.aload_n dX9_hoursLess_36 rfl rfl ?_
      refine V.iload_n dX9_hoursLess_37 rfl rfl ?_
      obtain ⟨p10, h11, h⟩ := bnd h
      have w12 := w_X9_value (g := g) h11
      refine V.callVi (args := [LI v1]) (st := [LI (16777215 : Int32)]) w12.1 (oo_X9_value h11) mk_X9_value w12.2 vc_9 ml_RX9_165 im_X9_value se_X9_value rfl (Nat.le_of_ble_eq_true rfl) (by decide) rfl (Nat.le_of_ble_eq_true rfl) dX9_hoursLess_38 ?_
      refine V.iconst dX9_hoursLess_41 ki_1 ?_
      refine V.iadd dX9_hoursLess_42 ?_
      obtain ⟨p13, h14, h⟩ := bnd h
      have w15 := w_X9_hoursBelow (g := g) (A := A) h14
      refine V.callSi (args := [LI (p10 + (1 : Int32))]) (st := [LI (16777215 : Int32)]) w15.1 mk_X9_hoursBelow w15.2 ml_RX9_168 sm_X9_hoursBelow rfl (Nat.le_of_ble_eq_true rfl) (by decide) rfl (Nat.le_of_ble_eq_true rfl) dX9_hoursLess_43 ?_
      refine V.iconst dX9_hoursLess_46 ki_m1 ?_
      refine V.ixor dX9_hoursLess_47 ?_
      refine V.iand dX9_hoursLess_48 ?_
      obtain rfl := Option.some.inj h
      exact V.ireturn dX9_hoursLess_49
  · have h := (if_pos c1).symm.trans h
    refine V.iload_n dX9_hoursLess_7 rfl rfl ?_
    refine V.sipush dX9_hoursLess_8 ks_1000 ?_
    refine V.icmp_ne (tgt := 18) dX9_hoursLess_11 (by decide) (fun c16 => ?_) (fun c16 => ?_)
    · have h := (if_neg c16).symm.trans h
      refine V.aload_n dX9_hoursLess_18 rfl rfl ?_
      refine V.iload_n dX9_hoursLess_19 rfl rfl ?_
      obtain ⟨p17, h18, h⟩ := bnd h
      have w19 := w_X9_value (g := g) h18
      refine V.callVi (args := [LI v2]) (st := []) w19.1 (oo_X9_value h18) mk_X9_value w19.2 vc_9 ml_RX9_165 im_X9_value se_X9_value rfl (Nat.le_of_ble_eq_true rfl) (by decide) rfl (Nat.le_of_ble_eq_true rfl) dX9_hoursLess_20 ?_
      obtain ⟨p20, h21, h⟩ := bnd h
      have w22 := w_X9_hoursBelow (g := g) (A := A) h21
      refine V.callSi (args := [LI p17]) (st := []) w22.1 mk_X9_hoursBelow w22.2 ml_RX9_168 sm_X9_hoursBelow rfl (Nat.le_of_ble_eq_true rfl) (by decide) rfl (Nat.le_of_ble_eq_true rfl) dX9_hoursLess_23 ?_
      obtain rfl := Option.some.inj h
      exact V.ireturn dX9_hoursLess_26
    · have h := (if_pos c16).symm.trans h
      refine V.iconst dX9_hoursLess_14 ki_0 ?_
      refine V.goto (tgt := 26) dX9_hoursLess_15 (by decide) ?_
      obtain rfl := Option.some.inj h
      exact V.ireturn dX9_hoursLess_26
def f_X9_hoursLess (A : LH) (v0 : Option Nat) (v1 : Int32) (v2 : Int32) : Option (Int32) := if isO A v0 9 = true then b_X9_hoursLess A v0 v1 v2 else none
theorem w_X9_hoursLess {g : GG} {A : LH} {v0 : Option Nat} {v1 : Int32} {v2 : Int32} {p : Int32} (h : f_X9_hoursLess A v0 v1 v2 = some p) : Ct g m_X9_hoursLess 1 [LR v0, LI v1, LI v2] A (some (LI p)) A := by
  unfold f_X9_hoursLess at h
  obtain ⟨ho, h⟩ := ifN h
  exact ⟨wb_X9_hoursLess h, rfl⟩
theorem oo_X9_hoursLess {A : LH} {v0 : Option Nat} {v1 : Int32} {v2 : Int32} {p : Int32} (h : f_X9_hoursLess A v0 v1 v2 = some p) : isO A v0 9 = true := by unfold f_X9_hoursLess at h; exact (ifN h).1
def b_X9_pop (A : LH) (v0 : Option Nat) : Option (Int32 × LH) :=
  (gI A v0 9 1).bind fun x1 => if (1 : Int32) ≤ x1 then (gI A v0 9 1).bind fun x4 => (pF A v0 9 1 (LI (x4 - (1 : Int32)))).bind fun A6 => (gR A6 v0 9 0).bind fun x8 => (gI A6 v0 9 1).bind fun x10 => (aI A6 x8 0 x10).bind fun x12 => some (x12, A6) else some ((0 : Int32), A)
set_option maxRecDepth 4000 in
theorem wb_X9_pop {g : GG} {n0 z0 : Nat} {A : LH} {v0 : Option Nat} {p : Int32 × LH} (h : b_X9_pop A v0 = some p) : V g m_X9_pop 0 n0 z0 (some (LI p.1)) p.2 A 0 [some (LR v0)] [] := by
  unfold b_X9_pop at h
  refine V.aload_n dX9_pop_0 rfl rfl ?_
  obtain ⟨x1, h2, h⟩ := bnd h
  refine V.getF (gI_F h2) CF9 (Nat.le_of_ble_eq_true rfl) fl_RX9_139 dX9_pop_1 ?_
  refine V.iconst dX9_pop_4 ki_1 ?_
  refine V.icmp_ge (tgt := 10) dX9_pop_5 (by decide) (fun c3 => ?_) (fun c3 => ?_)
  · have h := (if_pos c3).symm.trans h
    refine V.aload_n dX9_pop_10 rfl rfl ?_
    refine V.dup dX9_pop_11 rfl ?_
    obtain ⟨x4, h5, h⟩ := bnd h
    refine V.getF (gI_F h5) CF9 (Nat.le_of_ble_eq_true rfl) fl_RX9_139 dX9_pop_12 ?_
    refine V.iconst dX9_pop_15 ki_1 ?_
    refine V.isub dX9_pop_16 ?_
    obtain ⟨A6, h7, h⟩ := bnd h
    refine V.putF h7 rfl rfl rfl CF9 (Nat.le_of_ble_eq_true rfl) fl_RX9_139 dX9_pop_17 ?_
    refine V.aload_n dX9_pop_20 rfl rfl ?_
    obtain ⟨x8, h9, h⟩ := bnd h
    refine V.getF (gR_F h9) CF9 (Nat.le_of_ble_eq_true rfl) fl_RX9_11 dX9_pop_21 ?_
    refine V.aload_n dX9_pop_24 rfl rfl ?_
    obtain ⟨x10, h11, h⟩ := bnd h
    refine V.getF (gI_F h11) CF9 (Nat.le_of_ble_eq_true rfl) fl_RX9_139 dX9_pop_25 ?_
    obtain ⟨x12, h13, h⟩ := bnd h
    refine V.iald h13 dX9_pop_28 ?_
    obtain rfl := Option.some.inj h
    exact V.ireturn dX9_pop_29
  · have h := (if_neg c3).symm.trans h
    refine V.iconst dX9_pop_8 ki_0 ?_
    obtain rfl := Option.some.inj h
    exact V.ireturn dX9_pop_9
def f_X9_pop (A : LH) (v0 : Option Nat) : Option (Int32 × LH) := if isO A v0 9 = true then b_X9_pop A v0 else none
theorem w_X9_pop {g : GG} {A : LH} {v0 : Option Nat} {p : Int32 × LH} (h : f_X9_pop A v0 = some p) : Ct g m_X9_pop 0 [LR v0] A (some (LI p.1)) p.2 := by
  unfold f_X9_pop at h
  obtain ⟨ho, h⟩ := ifN h
  exact ⟨wb_X9_pop h, rfl⟩
theorem oo_X9_pop {A : LH} {v0 : Option Nat} {p : Int32 × LH} (h : f_X9_pop A v0 = some p) : isO A v0 9 = true := by unfold f_X9_pop at h; exact (ifN h).1
def b_X9_hoursAfter (A : LH) (v0 : Option Nat) (v1 : Int32) : Option (Int32 × LH) :=
  (f_X0_leftOf v1).bind fun p1 => (f_X0_rightOf v1).bind fun p4 => (f_X0_deedOf v1).bind fun p7 => if p7 = 0 then (f_X9_hoursLess A v0 p1 p4).bind fun p11 => some (p11, A) else if p7 = 1 then (f_X9_hoursLess A v0 p1 p4).bind fun p15 => (f_X9_hoursLess A v0 p4 p1).bind fun p18 => some ((((16777215 : Int32) &&& (p15 ^^^ (-1 : Int32))) &&& (p18 ^^^ (-1 : Int32))), A) else if p7 = 2 then (f_X9_hoursLess A v0 p4 p1).bind fun p22 => some (p22, A) else if p7 = 3 then (gI A v0 9 11).bind fun x26 => if x26 = 0 then some ((0 : Int32), A) else some ((16777215 : Int32), A) else if p7 = 4 then (f_X9_pop A v0).bind fun p30 => some (((16777215 : Int32) &&& (p30.1 ^^^ (-1 : Int32))), p30.2) else if p7 = 5 then (f_X9_pop A v0).bind fun p34 => (f_X9_pop p34.2 v0).bind fun p37 => some ((p34.1 &&& p37.1), p37.2) else (f_X9_pop A v0).bind fun p40 => (f_X9_pop p40.2 v0).bind fun p43 => some ((p40.1 ||| p43.1), p43.2)
set_option maxRecDepth 4000 in
theorem wb_X9_hoursAfter {g : GG} {n0 z0 : Nat} {A : LH} {v0 : Option Nat} {v1 : Int32} {p : Int32 × LH} (h : b_X9_hoursAfter A v0 v1 = some p) : V g m_X9_hoursAfter 2 n0 z0 (some (LI p.1)) p.2 A 0 [some (LR v0), some (LI v1)] [] := by
  unfold b_X9_hoursAfter at h
  refine V.iload_n dX9_hoursAfter_0 rfl rfl ?_
  obtain ⟨p1, h2, h⟩ := bnd h
  have w3 := w_X0_leftOf (g := g) (A := A) h2
  refine V.callSi (args := [LI v1]) (st := []) w3.1 mk_X0_leftOf w3.2 ml_RX9_153 sm_X0_leftOf rfl (Nat.le_of_ble_eq_true rfl) (by decide) rfl (Nat.le_of_ble_eq_true rfl) dX9_hoursAfter_1 ?_
  refine V.istore_n (ls' := [some (LR v0), some (LI v1), some (LI p1)]) dX9_hoursAfter_4 rfl (by decide) rfl rfl ?_
  refine V.iload_n dX9_hoursAfter_5 rfl rfl ?_
  obtain ⟨p4, h5, h⟩ := bnd h
  have w6 := w_X0_rightOf (g := g) (A := A) h5
  refine V.callSi (args := [LI v1]) (st := []) w6.1 mk_X0_rightOf w6.2 ml_RX9_156 sm_X0_rightOf rfl (Nat.le_of_ble_eq_true rfl) (by decide) rfl (Nat.le_of_ble_eq_true rfl) dX9_hoursAfter_6 ?_
  refine V.istore_n (ls' := [some (LR v0), some (LI v1), some (LI p1), some (LI p4)]) dX9_hoursAfter_9 rfl (by decide) rfl rfl ?_
  refine V.iload_n dX9_hoursAfter_10 rfl rfl ?_
  obtain ⟨p7, h8, h⟩ := bnd h
  have w9 := w_X0_deedOf (g := g) (A := A) h8
  refine V.callSi (args := [LI v1]) (st := []) w9.1 mk_X0_deedOf w9.2 ml_RX9_159 sm_X0_deedOf rfl (Nat.le_of_ble_eq_true rfl) (by decide) rfl (Nat.le_of_ble_eq_true rfl) dX9_hoursAfter_11 ?_
  by_cases c10 : p7 = 0
  · have h := (if_pos c10).symm.trans h
    refine V.tableIn (tgt := 52) (off := 38) dX9_hoursAfter_14 (by rw [c10]; decide) (by rw [c10]; decide) (by rw [c10]; decide) (by decide) ?_
    refine V.aload_n dX9_hoursAfter_52 rfl rfl ?_
    refine V.iload_n dX9_hoursAfter_53 rfl rfl ?_
    refine V.iload_n dX9_hoursAfter_54 rfl rfl ?_
    obtain ⟨p11, h12, h⟩ := bnd h
    have w13 := w_X9_hoursLess (g := g) h12
    refine V.callVi (args := [LI p1, LI p4]) (st := []) w13.1 (oo_X9_hoursLess h12) mk_X9_hoursLess w13.2 vc_9 ml_RX9_162 im_X9_hoursLess se_X9_hoursLess rfl (Nat.le_of_ble_eq_true rfl) (by decide) rfl (Nat.le_of_ble_eq_true rfl) dX9_hoursAfter_55 ?_
    obtain rfl := Option.some.inj h
    exact V.ireturn dX9_hoursAfter_58
  have h := (if_neg c10).symm.trans h
  by_cases c14 : p7 = 1
  · have h := (if_pos c14).symm.trans h
    refine V.tableIn (tgt := 59) (off := 45) dX9_hoursAfter_14 (by rw [c14]; decide) (by rw [c14]; decide) (by rw [c14]; decide) (by decide) ?_
    refine V.ldc kc_RX9_108 dX9_hoursAfter_59 ?_
    refine V.aload_n dX9_hoursAfter_61 rfl rfl ?_
    refine V.iload_n dX9_hoursAfter_62 rfl rfl ?_
    refine V.iload_n dX9_hoursAfter_63 rfl rfl ?_
    obtain ⟨p15, h16, h⟩ := bnd h
    have w17 := w_X9_hoursLess (g := g) h16
    refine V.callVi (args := [LI p1, LI p4]) (st := [LI (16777215 : Int32)]) w17.1 (oo_X9_hoursLess h16) mk_X9_hoursLess w17.2 vc_9 ml_RX9_162 im_X9_hoursLess se_X9_hoursLess rfl (Nat.le_of_ble_eq_true rfl) (by decide) rfl (Nat.le_of_ble_eq_true rfl) dX9_hoursAfter_64 ?_
    refine V.iconst dX9_hoursAfter_67 ki_m1 ?_
    refine V.ixor dX9_hoursAfter_68 ?_
    refine V.iand dX9_hoursAfter_69 ?_
    refine V.aload_n dX9_hoursAfter_70 rfl rfl ?_
    refine V.iload_n dX9_hoursAfter_71 rfl rfl ?_
    refine V.iload_n dX9_hoursAfter_72 rfl rfl ?_
    obtain ⟨p18, h19, h⟩ := bnd h
    have w20 := w_X9_hoursLess (g := g) h19
    refine V.callVi (args := [LI p4, LI p1]) (st := [LI ((16777215 : Int32) &&& (p15 ^^^ (-1 : Int32)))]) w20.1 (oo_X9_hoursLess h19) mk_X9_hoursLess w20.2 vc_9 ml_RX9_162 im_X9_hoursLess se_X9_hoursLess rfl (Nat.le_of_ble_eq_true rfl) (by decide) rfl (Nat.le_of_ble_eq_true rfl) dX9_hoursAfter_73 ?_
    refine V.iconst dX9_hoursAfter_76 ki_m1 ?_
    refine V.ixor dX9_hoursAfter_77 ?_
    refine V.iand dX9_hoursAfter_78 ?_
    obtain rfl := Option.some.inj h
    exact V.ireturn dX9_hoursAfter_79
  have h := (if_neg c14).symm.trans h
  by_cases c21 : p7 = 2
  · have h := (if_pos c21).symm.trans h
    refine V.tableIn (tgt := 80) (off := 66) dX9_hoursAfter_14 (by rw [c21]; decide) (by rw [c21]; decide) (by rw [c21]; decide) (by decide) ?_
    refine V.aload_n dX9_hoursAfter_80 rfl rfl ?_
    refine V.iload_n dX9_hoursAfter_81 rfl rfl ?_
    refine V.iload_n dX9_hoursAfter_82 rfl rfl ?_
    obtain ⟨p22, h23, h⟩ := bnd h
    have w24 := w_X9_hoursLess (g := g) h23
    refine V.callVi (args := [LI p4, LI p1]) (st := []) w24.1 (oo_X9_hoursLess h23) mk_X9_hoursLess w24.2 vc_9 ml_RX9_162 im_X9_hoursLess se_X9_hoursLess rfl (Nat.le_of_ble_eq_true rfl) (by decide) rfl (Nat.le_of_ble_eq_true rfl) dX9_hoursAfter_83 ?_
    obtain rfl := Option.some.inj h
    exact V.ireturn dX9_hoursAfter_86
  have h := (if_neg c21).symm.trans h
  by_cases c25 : p7 = 3
  · have h := (if_pos c25).symm.trans h
    refine V.tableIn (tgt := 87) (off := 73) dX9_hoursAfter_14 (by rw [c25]; decide) (by rw [c25]; decide) (by rw [c25]; decide) (by decide) ?_
    refine V.aload_n dX9_hoursAfter_87 rfl rfl ?_
    obtain ⟨x26, h27, h⟩ := bnd h
    refine V.getF (gI_F h27) CF9 (Nat.le_of_ble_eq_true rfl) fl_RX9_64 dX9_hoursAfter_88 ?_
    refine V.if_eq (tgt := 99) dX9_hoursAfter_91 (by decide) (fun c28 => ?_) (fun c28 => ?_)
    · have h := (if_pos c28).symm.trans h
      refine V.iconst dX9_hoursAfter_99 ki_0 ?_
      obtain rfl := Option.some.inj h
      exact V.ireturn dX9_hoursAfter_100
    · have h := (if_neg c28).symm.trans h
      refine V.ldc kc_RX9_108 dX9_hoursAfter_94 ?_
      refine V.goto (tgt := 100) dX9_hoursAfter_96 (by decide) ?_
      obtain rfl := Option.some.inj h
      exact V.ireturn dX9_hoursAfter_100
  have h := (if_neg c25).symm.trans h
  by_cases c29 : p7 = 4
  · have h := (if_pos c29).symm.trans h
    refine V.tableIn (tgt := 101) (off := 87) dX9_hoursAfter_14 (by rw [c29]; decide) (by rw [c29]; decide) (by rw [c29]; decide) (by decide) ?_
    refine V.ldc kc_RX9_108 dX9_hoursAfter_101 ?_
    refine V.aload_n dX9_hoursAfter_103 rfl rfl ?_
    obtain ⟨p30, h31, h⟩ := bnd h
    have w32 := w_X9_pop (g := g) h31
    refine V.callVi (args := []) (st := [LI (16777215 : Int32)]) w32.1 (oo_X9_pop h31) mk_X9_pop w32.2 vc_9 ml_RX9_149 im_X9_pop se_X9_pop rfl (Nat.le_of_ble_eq_true rfl) (by decide) rfl (Nat.le_of_ble_eq_true rfl) dX9_hoursAfter_104 ?_
    refine V.iconst dX9_hoursAfter_107 ki_m1 ?_
    refine V.ixor dX9_hoursAfter_108 ?_
    refine V.iand dX9_hoursAfter_109 ?_
    obtain rfl := Option.some.inj h
    exact V.ireturn dX9_hoursAfter_110
  have h := (if_neg c29).symm.trans h
  by_cases c33 : p7 = 5
  · have h := (if_pos c33).symm.trans h
    refine V.tableIn (tgt := 111) (off := 97) dX9_hoursAfter_14 (by rw [c33]; decide) (by rw [c33]; decide) (by rw [c33]; decide) (by decide) ?_
    refine V.aload_n dX9_hoursAfter_111 rfl rfl ?_
    obtain ⟨p34, h35, h⟩ := bnd h
    have w36 := w_X9_pop (g := g) h35
    refine V.callVi (args := []) (st := []) w36.1 (oo_X9_pop h35) mk_X9_pop w36.2 vc_9 ml_RX9_149 im_X9_pop se_X9_pop rfl (Nat.le_of_ble_eq_true rfl) (by decide) rfl (Nat.le_of_ble_eq_true rfl) dX9_hoursAfter_112 ?_
    refine V.aload_n dX9_hoursAfter_115 rfl rfl ?_
    obtain ⟨p37, h38, h⟩ := bnd h
    have w39 := w_X9_pop (g := g) h38
    refine V.callVi (args := []) (st := [LI p34.1]) w39.1 (oo_X9_pop h38) mk_X9_pop w39.2 vc_9 ml_RX9_149 im_X9_pop se_X9_pop rfl (Nat.le_of_ble_eq_true rfl) (by decide) rfl (Nat.le_of_ble_eq_true rfl) dX9_hoursAfter_116 ?_
    refine V.iand dX9_hoursAfter_119 ?_
    obtain rfl := Option.some.inj h
    exact V.ireturn dX9_hoursAfter_120
  have h := (if_neg c33).symm.trans h
  refine V.tableOut (tgt := 121) dX9_hoursAfter_14 (sw_out (n := 6) [0, 1, 2, 3, 4, 5] (by decide) (List.forall_mem_cons.mpr ⟨c10, List.forall_mem_cons.mpr ⟨c14, List.forall_mem_cons.mpr ⟨c21, List.forall_mem_cons.mpr ⟨c25, List.forall_mem_cons.mpr ⟨c29, List.forall_mem_cons.mpr ⟨c33, fun _ z => nomatch z⟩⟩⟩⟩⟩⟩)) (by decide) ?_
  refine V.aload_n dX9_hoursAfter_121 rfl rfl ?_
  obtain ⟨p40, h41, h⟩ := bnd h
  have w42 := w_X9_pop (g := g) h41
  refine V.callVi (args := []) (st := []) w42.1 (oo_X9_pop h41) mk_X9_pop w42.2 vc_9 ml_RX9_149 im_X9_pop se_X9_pop rfl (Nat.le_of_ble_eq_true rfl) (by decide) rfl (Nat.le_of_ble_eq_true rfl) dX9_hoursAfter_122 ?_
  refine V.aload_n dX9_hoursAfter_125 rfl rfl ?_
  obtain ⟨p43, h44, h⟩ := bnd h
  have w45 := w_X9_pop (g := g) h44
  refine V.callVi (args := []) (st := [LI p40.1]) w45.1 (oo_X9_pop h44) mk_X9_pop w45.2 vc_9 ml_RX9_149 im_X9_pop se_X9_pop rfl (Nat.le_of_ble_eq_true rfl) (by decide) rfl (Nat.le_of_ble_eq_true rfl) dX9_hoursAfter_126 ?_
  refine V.ior dX9_hoursAfter_129 ?_
  obtain rfl := Option.some.inj h
  exact V.ireturn dX9_hoursAfter_130
def f_X9_hoursAfter (A : LH) (v0 : Option Nat) (v1 : Int32) : Option (Int32 × LH) := if isO A v0 9 = true then b_X9_hoursAfter A v0 v1 else none
theorem w_X9_hoursAfter {g : GG} {A : LH} {v0 : Option Nat} {v1 : Int32} {p : Int32 × LH} (h : f_X9_hoursAfter A v0 v1 = some p) : Ct g m_X9_hoursAfter 2 [LR v0, LI v1] A (some (LI p.1)) p.2 := by
  unfold f_X9_hoursAfter at h
  obtain ⟨ho, h⟩ := ifN h
  exact ⟨wb_X9_hoursAfter h, rfl⟩
theorem oo_X9_hoursAfter {A : LH} {v0 : Option Nat} {v1 : Int32} {p : Int32 × LH} (h : f_X9_hoursAfter A v0 v1 = some p) : isO A v0 9 = true := by unfold f_X9_hoursAfter at h; exact (ifN h).1
def b_X9_push (A : LH) (v0 : Option Nat) (v1 : Int32) : Option (LH) :=
  (gI A v0 9 1).bind fun x1 => (gR A v0 9 0).bind fun x3 => (ln6 A x3).bind fun x5 => if x5 ≤ x1 then some A else (gR A v0 9 0).bind fun x8 => (gI A v0 9 1).bind fun x10 => (sI A x8 0 x10 v1).bind fun A12 => (gI A12 v0 9 1).bind fun x14 => (pF A12 v0 9 1 (LI (x14 + (1 : Int32)))).bind fun A16 => some A16
set_option maxRecDepth 4000 in
theorem wb_X9_push {g : GG} {n0 z0 : Nat} {A : LH} {v0 : Option Nat} {v1 : Int32} {p : LH} (h : b_X9_push A v0 v1 = some p) : V g m_X9_push 0 n0 z0 none p A 0 [some (LR v0), some (LI v1)] [] := by
  unfold b_X9_push at h
  refine V.aload_n dX9_push_0 rfl rfl ?_
  obtain ⟨x1, h2, h⟩ := bnd h
  refine V.getF (gI_F h2) CF9 (Nat.le_of_ble_eq_true rfl) fl_RX9_139 dX9_push_1 ?_
  refine V.aload_n dX9_push_4 rfl rfl ?_
  obtain ⟨x3, h4, h⟩ := bnd h
  refine V.getF (gR_F h4) CF9 (Nat.le_of_ble_eq_true rfl) fl_RX9_11 dX9_push_5 ?_
  obtain ⟨x5, h6, h⟩ := bnd h
  refine V.alen (ln6_l h6) (ln6_t h6) dX9_push_8 ?_
  refine V.icmp_ge (tgt := 32) dX9_push_9 (by decide) (fun c7 => ?_) (fun c7 => ?_)
  · have h := (if_pos c7).symm.trans h
    obtain rfl := Option.some.inj h
    exact V.return_ dX9_push_32
  · have h := (if_neg c7).symm.trans h
    refine V.aload_n dX9_push_12 rfl rfl ?_
    obtain ⟨x8, h9, h⟩ := bnd h
    refine V.getF (gR_F h9) CF9 (Nat.le_of_ble_eq_true rfl) fl_RX9_11 dX9_push_13 ?_
    refine V.aload_n dX9_push_16 rfl rfl ?_
    obtain ⟨x10, h11, h⟩ := bnd h
    refine V.getF (gI_F h11) CF9 (Nat.le_of_ble_eq_true rfl) fl_RX9_139 dX9_push_17 ?_
    refine V.iload_n dX9_push_20 rfl rfl ?_
    obtain ⟨A12, h13, h⟩ := bnd h
    refine V.iast h13 dX9_push_21 ?_
    refine V.aload_n dX9_push_22 rfl rfl ?_
    refine V.dup dX9_push_23 rfl ?_
    obtain ⟨x14, h15, h⟩ := bnd h
    refine V.getF (gI_F h15) CF9 (Nat.le_of_ble_eq_true rfl) fl_RX9_139 dX9_push_24 ?_
    refine V.iconst dX9_push_27 ki_1 ?_
    refine V.iadd dX9_push_28 ?_
    obtain ⟨A16, h17, h⟩ := bnd h
    refine V.putF h17 rfl rfl rfl CF9 (Nat.le_of_ble_eq_true rfl) fl_RX9_139 dX9_push_29 ?_
    obtain rfl := Option.some.inj h
    exact V.return_ dX9_push_32
def f_X9_push (A : LH) (v0 : Option Nat) (v1 : Int32) : Option (LH) := if isO A v0 9 = true then b_X9_push A v0 v1 else none
theorem w_X9_push {g : GG} {A : LH} {v0 : Option Nat} {v1 : Int32} {p : LH} (h : f_X9_push A v0 v1 = some p) : Ct g m_X9_push 0 [LR v0, LI v1] A none p := by
  unfold f_X9_push at h
  obtain ⟨ho, h⟩ := ifN h
  exact ⟨wb_X9_push h, trivial⟩
theorem oo_X9_push {A : LH} {v0 : Option Nat} {v1 : Int32} {p : LH} (h : f_X9_push A v0 v1 = some p) : isO A v0 9 = true := by unfold f_X9_push at h; exact (ifN h).1
def b_X9_hoursOf_7 (N : Nat) (k7 : LH → Option Nat → Option Nat → Int32 → Option (Int32 × LH)) (A : LH) (v0 : Option Nat) (v1 : Option Nat) (v2 : Int32) : Option (Int32 × LH) :=
  (ln6 A v1).bind fun x3 => if x3 ≤ v2 then (f_X9_pop A v0).bind fun p6 => some (p6.1, p6.2) else (aI A v1 0 v2).bind fun x9 => (f_X9_hoursAfter A v0 x9).bind fun p11 => (f_X9_push p11.2 v0 p11.1).bind fun p14 => k7 p14 v0 v1 (v2 + (1 : Int32))
set_option maxRecDepth 4000 in
theorem wb_X9_hoursOf_7 {g : GG} {n0 z0 : Nat} (N : Nat) {k7 : LH → Option Nat → Option Nat → Int32 → Option (Int32 × LH)} {A : LH} {v0 : Option Nat} {v1 : Option Nat} {v2 : Int32} {p : Int32 × LH} (hk7 : ∀ {A : LH} {v0 : Option Nat} {v1 : Option Nat} {v2 : Int32} {p : Int32 × LH}, k7 A v0 v1 v2 = some p → V g m_X9_hoursOf 3 n0 z0 (some (LI p.1)) p.2 A 7 [some (LR v0), some (LR v1), some (LI v2)] []) (h : b_X9_hoursOf_7 N k7 A v0 v1 v2 = some p) : V g m_X9_hoursOf 3 n0 z0 (some (LI p.1)) p.2 A 7 [some (LR v0), some (LR v1), some (LI v2)] [] := by
  unfold b_X9_hoursOf_7 at h
  refine V.iload_n dX9_hoursOf_7 rfl rfl ?_
  refine V.aload_n dX9_hoursOf_8 rfl rfl ?_
  obtain ⟨x3, h4, h⟩ := bnd h
  refine V.alen (ln6_l h4) (ln6_t h4) dX9_hoursOf_9 ?_
  refine V.icmp_ge (tgt := 30) dX9_hoursOf_10 (by decide) (fun c5 => ?_) (fun c5 => ?_)
  · have h := (if_pos c5).symm.trans h
    refine V.aload_n dX9_hoursOf_30 rfl rfl ?_
    obtain ⟨p6, h7, h⟩ := bnd h
    have w8 := w_X9_pop (g := g) h7
    refine V.callVi (args := []) (st := []) w8.1 (oo_X9_pop h7) mk_X9_pop w8.2 vc_9 ml_RX9_149 im_X9_pop se_X9_pop rfl (Nat.le_of_ble_eq_true rfl) (by decide) rfl (Nat.le_of_ble_eq_true rfl) dX9_hoursOf_31 ?_
    obtain rfl := Option.some.inj h
    exact V.ireturn dX9_hoursOf_34
  · have h := (if_neg c5).symm.trans h
    refine V.aload_n dX9_hoursOf_13 rfl rfl ?_
    refine V.aload_n dX9_hoursOf_14 rfl rfl ?_
    refine V.aload_n dX9_hoursOf_15 rfl rfl ?_
    refine V.iload_n dX9_hoursOf_16 rfl rfl ?_
    obtain ⟨x9, h10, h⟩ := bnd h
    refine V.iald h10 dX9_hoursOf_17 ?_
    obtain ⟨p11, h12, h⟩ := bnd h
    have w13 := w_X9_hoursAfter (g := g) h12
    refine V.callVi (args := [LI x9]) (st := [LR v0]) w13.1 (oo_X9_hoursAfter h12) mk_X9_hoursAfter w13.2 vc_9 ml_RX9_142 im_X9_hoursAfter se_X9_hoursAfter rfl (Nat.le_of_ble_eq_true rfl) (by decide) rfl (Nat.le_of_ble_eq_true rfl) dX9_hoursOf_18 ?_
    obtain ⟨p14, h15, h⟩ := bnd h
    have w16 := w_X9_push (g := g) h15
    refine V.callVv (args := [LI p11.1]) (st := []) w16.1 (oo_X9_push h15) mk_X9_push w16.2 vc_9 ml_RX9_145 im_X9_push se_X9_push rfl (Nat.le_of_ble_eq_true rfl) (by decide) rfl (Nat.le_of_ble_eq_true rfl) dX9_hoursOf_21 ?_
    refine V.iinc (ls' := [some (LR v0), some (LR v1), some (LI (v2 + (1 : Int32)))]) dX9_hoursOf_24 rfl ki_1 (by decide) rfl rfl ?_
    refine V.goto (tgt := 7) dX9_hoursOf_27 (by decide) ?_
    refine V.weak [true, true, true] ?_
    exact hk7 h
def l_X9_hoursOf_7 (N : Nat) : Nat → LH → Option Nat → Option Nat → Int32 → Option (Int32 × LH)
  | 0, _, _, _, _ => none
  | n + 1, A, v0, v1, v2 => b_X9_hoursOf_7 N (l_X9_hoursOf_7 N n) A v0 v1 v2
theorem wl_X9_hoursOf_7 {g : GG} {n0 z0 : Nat} (N : Nat) : ∀ (n : Nat) {A : LH} {v0 : Option Nat} {v1 : Option Nat} {v2 : Int32} {p : Int32 × LH}, l_X9_hoursOf_7 N n A v0 v1 v2 = some p → V g m_X9_hoursOf 3 n0 z0 (some (LI p.1)) p.2 A 7 [some (LR v0), some (LR v1), some (LI v2)] []
  | 0, _, _, _, _, _, h => nomatch h
  | n + 1, _, _, _, _, _, h => wb_X9_hoursOf_7 N (wl_X9_hoursOf_7 N n) h
def b_X9_hoursOf (N : Nat) (A : LH) (v0 : Option Nat) (v1 : Option Nat) : Option (Int32 × LH) :=
  (pF A v0 9 1 (LI (0 : Int32))).bind fun A1 => l_X9_hoursOf_7 N N A1 v0 v1 (0 : Int32)
set_option maxRecDepth 4000 in
theorem wb_X9_hoursOf {g : GG} {n0 z0 : Nat} (N : Nat) {A : LH} {v0 : Option Nat} {v1 : Option Nat} {p : Int32 × LH} (h : b_X9_hoursOf N A v0 v1 = some p) : V g m_X9_hoursOf 3 n0 z0 (some (LI p.1)) p.2 A 0 [some (LR v0), some (LR v1)] [] := by
  unfold b_X9_hoursOf at h
  refine V.aload_n dX9_hoursOf_0 rfl rfl ?_
  refine V.iconst dX9_hoursOf_1 ki_0 ?_
  obtain ⟨A1, h2, h⟩ := bnd h
  refine V.putF h2 rfl rfl rfl CF9 (Nat.le_of_ble_eq_true rfl) fl_RX9_139 dX9_hoursOf_2 ?_
  refine V.iconst dX9_hoursOf_5 ki_0 ?_
  refine V.istore_n (ls' := [some (LR v0), some (LR v1), some (LI (0 : Int32))]) dX9_hoursOf_6 rfl (by decide) rfl rfl ?_
  refine V.weak [true, true, true] ?_
  exact wl_X9_hoursOf_7 N N h
def f_X9_hoursOf (N : Nat) (A : LH) (v0 : Option Nat) (v1 : Option Nat) : Option (Int32 × LH) := if isO A v0 9 = true then b_X9_hoursOf N A v0 v1 else none
theorem w_X9_hoursOf {g : GG} (N : Nat) {A : LH} {v0 : Option Nat} {v1 : Option Nat} {p : Int32 × LH} (h : f_X9_hoursOf N A v0 v1 = some p) : Ct g m_X9_hoursOf 3 [LR v0, LR v1] A (some (LI p.1)) p.2 := by
  unfold f_X9_hoursOf at h
  obtain ⟨ho, h⟩ := ifN h
  exact ⟨wb_X9_hoursOf N h, rfl⟩
theorem oo_X9_hoursOf {N : Nat} {A : LH} {v0 : Option Nat} {v1 : Option Nat} {p : Int32 × LH} (h : f_X9_hoursOf N A v0 v1 = some p) : isO A v0 9 = true := by unfold f_X9_hoursOf at h; exact (ifN h).1
def b_X9_hoursHeld (N : Nat) (A : LH) (v0 : Option Nat) (v1 : Option Nat) : Option (Int32 × LH) :=
  if v1 = none then some ((0 : Int32), A) else (f_X9_holdsWho A v0 v1).bind fun p2 => if p2 = 0 then some ((0 : Int32), A) else (f_X9_holdsAct A v0 v1).bind fun p6 => if p6 = 0 then some ((0 : Int32), A) else (f_X9_holdsWhat A v0 v1).bind fun p10 => if p10 = 0 then some ((0 : Int32), A) else (gR A v1 0 6).bind fun x14 => (ln6 A x14).bind fun x16 => if x16 = 0 then some ((16777215 : Int32), A) else (gR A v1 0 6).bind fun x19 => (f_X9_hoursOf N A v0 x19).bind fun p21 => some (p21.1, p21.2)
set_option maxRecDepth 4000 in
theorem wb_X9_hoursHeld {g : GG} {n0 z0 : Nat} (N : Nat) {A : LH} {v0 : Option Nat} {v1 : Option Nat} {p : Int32 × LH} (h : b_X9_hoursHeld N A v0 v1 = some p) : V g m_X9_hoursHeld 4 n0 z0 (some (LI p.1)) p.2 A 0 [some (LR v0), some (LR v1)] [] := by
  unfold b_X9_hoursHeld at h
  refine V.aload_n dX9_hoursHeld_0 rfl rfl ?_
  refine V.ifnull_ (tgt := 28) dX9_hoursHeld_1 (by decide) (fun c24 => ?_) (fun c24 => ?_)
  · have h := (if_pos c24).symm.trans h
    refine V.iconst dX9_hoursHeld_28 ki_0 ?_
    obtain rfl := Option.some.inj h
    exact V.ireturn dX9_hoursHeld_29
  · have h := (if_neg c24).symm.trans h
    refine V.aload_n dX9_hoursHeld_4 rfl rfl ?_
    refine V.aload_n dX9_hoursHeld_5 rfl rfl ?_
    obtain ⟨p2, h3, h⟩ := bnd h
    have w4 := w_X9_holdsWho (g := g) h3
    refine V.callVi (args := [LR v1]) (st := []) w4.1 (oo_X9_holdsWho h3) mk_X9_holdsWho w4.2 vc_9 ml_RX9_109 im_X9_holdsWho se_X9_holdsWho rfl (Nat.le_of_ble_eq_true rfl) (by decide) rfl (Nat.le_of_ble_eq_true rfl) dX9_hoursHeld_6 ?_
    refine V.if_eq (tgt := 28) dX9_hoursHeld_9 (by decide) (fun c5 => ?_) (fun c5 => ?_)
    · have h := (if_pos c5).symm.trans h
      refine V.iconst dX9_hoursHeld_28 ki_0 ?_
      obtain rfl := Option.some.inj h
      exact V.ireturn dX9_hoursHeld_29
    · have h := (if_neg c5).symm.trans h
      refine V.aload_n dX9_hoursHeld_12 rfl rfl ?_
      refine V.aload_n dX9_hoursHeld_13 rfl rfl ?_
      obtain ⟨p6, h7, h⟩ := bnd h
      have w8 := w_X9_holdsAct (g := g) h7
      refine V.callVi (args := [LR v1]) (st := []) w8.1 (oo_X9_holdsAct h7) mk_X9_holdsAct w8.2 vc_9 ml_RX9_113 im_X9_holdsAct se_X9_holdsAct rfl (Nat.le_of_ble_eq_true rfl) (by decide) rfl (Nat.le_of_ble_eq_true rfl) dX9_hoursHeld_14 ?_
      refine V.if_eq (tgt := 28) dX9_hoursHeld_17 (by decide) (fun c9 => ?_) (fun c9 => ?_)
      · have h := (if_pos c9).symm.trans h
        refine V.iconst dX9_hoursHeld_28 ki_0 ?_
        obtain rfl := Option.some.inj h
        exact V.ireturn dX9_hoursHeld_29
      · have h := (if_neg c9).symm.trans h
        refine V.aload_n dX9_hoursHeld_20 rfl rfl ?_
        refine V.aload_n dX9_hoursHeld_21 rfl rfl ?_
        obtain ⟨p10, h11, h⟩ := bnd h
        have w12 := w_X9_holdsWhat (g := g) h11
        refine V.callVi (args := [LR v1]) (st := []) w12.1 (oo_X9_holdsWhat h11) mk_X9_holdsWhat w12.2 vc_9 ml_RX9_116 im_X9_holdsWhat se_X9_holdsWhat rfl (Nat.le_of_ble_eq_true rfl) (by decide) rfl (Nat.le_of_ble_eq_true rfl) dX9_hoursHeld_22 ?_
        refine V.if_ne (tgt := 30) dX9_hoursHeld_25 (by decide) (fun c13 => ?_) (fun c13 => ?_)
        · have h := (if_neg c13).symm.trans h
          refine V.aload_n dX9_hoursHeld_30 rfl rfl ?_
          obtain ⟨x14, h15, h⟩ := bnd h
          refine V.getFN (gR_F h15) CF0 (Nat.le_of_ble_eq_true rfl) fl_RX9_119 dX9_hoursHeld_31 ?_
          obtain ⟨x16, h17, h⟩ := bnd h
          refine V.alen (ln6_l h17) (ln6_t h17) dX9_hoursHeld_34 ?_
          refine V.if_ne (tgt := 43) dX9_hoursHeld_35 (by decide) (fun c18 => ?_) (fun c18 => ?_)
          · have h := (if_neg c18).symm.trans h
            refine V.aload_n dX9_hoursHeld_43 rfl rfl ?_
            refine V.aload_n dX9_hoursHeld_44 rfl rfl ?_
            obtain ⟨x19, h20, h⟩ := bnd h
            refine V.getFN (gR_F h20) CF0 (Nat.le_of_ble_eq_true rfl) fl_RX9_119 dX9_hoursHeld_45 ?_
            obtain ⟨p21, h22, h⟩ := bnd h
            have w23 := w_X9_hoursOf (g := g) N h22
            refine V.callVi (args := [LR x19]) (st := []) w23.1 (oo_X9_hoursOf h22) mk_X9_hoursOf w23.2 vc_9 ml_RX9_122 im_X9_hoursOf se_X9_hoursOf rfl (Nat.le_of_ble_eq_true rfl) (by decide) rfl (Nat.le_of_ble_eq_true rfl) dX9_hoursHeld_48 ?_
            obtain rfl := Option.some.inj h
            exact V.ireturn dX9_hoursHeld_51
          · have h := (if_pos c18).symm.trans h
            refine V.ldc kc_RX9_108 dX9_hoursHeld_38 ?_
            refine V.goto (tgt := 51) dX9_hoursHeld_40 (by decide) ?_
            obtain rfl := Option.some.inj h
            exact V.ireturn dX9_hoursHeld_51
        · have h := (if_pos c13).symm.trans h
          refine V.iconst dX9_hoursHeld_28 ki_0 ?_
          obtain rfl := Option.some.inj h
          exact V.ireturn dX9_hoursHeld_29
def f_X9_hoursHeld (N : Nat) (A : LH) (v0 : Option Nat) (v1 : Option Nat) : Option (Int32 × LH) := if isO A v0 9 = true then b_X9_hoursHeld N A v0 v1 else none
theorem w_X9_hoursHeld {g : GG} (N : Nat) {A : LH} {v0 : Option Nat} {v1 : Option Nat} {p : Int32 × LH} (h : f_X9_hoursHeld N A v0 v1 = some p) : Ct g m_X9_hoursHeld 4 [LR v0, LR v1] A (some (LI p.1)) p.2 := by
  unfold f_X9_hoursHeld at h
  obtain ⟨ho, h⟩ := ifN h
  exact ⟨wb_X9_hoursHeld N h, rfl⟩
theorem oo_X9_hoursHeld {N : Nat} {A : LH} {v0 : Option Nat} {v1 : Option Nat} {p : Int32 × LH} (h : f_X9_hoursHeld N A v0 v1 = some p) : isO A v0 9 = true := by unfold f_X9_hoursHeld at h; exact (ifN h).1
def b_X9_decider_2 (N : Nat) (k2 : LH → Option Nat → Option Nat → Int32 → Option (Int32 × LH)) (A : LH) (v0 : Option Nat) (v1 : Option Nat) (v2 : Int32) : Option (Int32 × LH) :=
  (gR A v1 3 2).bind fun x1 => (ln6 A x1).bind fun x3 => if x3 ≤ v2 then some ((-1 : Int32), A) else (gR A v1 3 2).bind fun x6 => (aI A x6 0 v2).bind fun x8 => (f_X3_lineAt A v1 x8).bind fun p10 => (f_X9_hoursHeld N A v0 p10).bind fun p13 => (gI p13.2 v0 9 5).bind fun x16 => (f_X10_hasBit p13.1 x16).bind fun p18 => if p18 = 0 then k2 p13.2 v0 v1 (v2 + (1 : Int32)) else (gR p13.2 v1 3 2).bind fun x22 => (aI p13.2 x22 0 v2).bind fun x24 => some (x24, p13.2)
set_option maxRecDepth 4000 in
theorem wb_X9_decider_2 {g : GG} {n0 z0 : Nat} (N : Nat) {k2 : LH → Option Nat → Option Nat → Int32 → Option (Int32 × LH)} {A : LH} {v0 : Option Nat} {v1 : Option Nat} {v2 : Int32} {p : Int32 × LH} (hk2 : ∀ {A : LH} {v0 : Option Nat} {v1 : Option Nat} {v2 : Int32} {p : Int32 × LH}, k2 A v0 v1 v2 = some p → V g m_X9_decider 5 n0 z0 (some (LI p.1)) p.2 A 2 [some (LR v0), some (LR v1), some (LI v2)] []) (h : b_X9_decider_2 N k2 A v0 v1 v2 = some p) : V g m_X9_decider 5 n0 z0 (some (LI p.1)) p.2 A 2 [some (LR v0), some (LR v1), some (LI v2)] [] := by
  unfold b_X9_decider_2 at h
  refine V.iload_n dX9_decider_2 rfl rfl ?_
  refine V.aload_n dX9_decider_3 rfl rfl ?_
  obtain ⟨x1, h2, h⟩ := bnd h
  refine V.getFN (gR_F h2) CF3 (Nat.le_of_ble_eq_true rfl) fl_RX9_78 dX9_decider_4 ?_
  obtain ⟨x3, h4, h⟩ := bnd h
  refine V.alen (ln6_l h4) (ln6_t h4) dX9_decider_7 ?_
  refine V.icmp_ge (tgt := 48) dX9_decider_8 (by decide) (fun c5 => ?_) (fun c5 => ?_)
  · have h := (if_pos c5).symm.trans h
    refine V.iconst dX9_decider_48 ki_m1 ?_
    obtain rfl := Option.some.inj h
    exact V.ireturn dX9_decider_49
  · have h := (if_neg c5).symm.trans h
    refine V.aload_n dX9_decider_11 rfl rfl ?_
    refine V.aload_n dX9_decider_12 rfl rfl ?_
    refine V.aload_n dX9_decider_13 rfl rfl ?_
    obtain ⟨x6, h7, h⟩ := bnd h
    refine V.getFN (gR_F h7) CF3 (Nat.le_of_ble_eq_true rfl) fl_RX9_78 dX9_decider_14 ?_
    refine V.iload_n dX9_decider_17 rfl rfl ?_
    obtain ⟨x8, h9, h⟩ := bnd h
    refine V.iald h9 dX9_decider_18 ?_
    obtain ⟨p10, h11, h⟩ := bnd h
    have w12 := w_X3_lineAt (g := g) h11
    refine V.callVr (args := [LI x8]) (st := [LR v0]) w12.1 (oo_X3_lineAt h11) mk_X3_lineAt w12.2 vc_3 ml_RX9_83 im_X3_lineAt se_X3_lineAt rfl (Nat.le_of_ble_eq_true rfl) (by decide) rfl (Nat.le_of_ble_eq_true rfl) dX9_decider_19 ?_
    obtain ⟨p13, h14, h⟩ := bnd h
    have w15 := w_X9_hoursHeld (g := g) N h14
    refine V.callVi (args := [LR p10]) (st := []) w15.1 (oo_X9_hoursHeld h14) mk_X9_hoursHeld w15.2 vc_9 ml_RX9_87 im_X9_hoursHeld se_X9_hoursHeld rfl (Nat.le_of_ble_eq_true rfl) (by decide) rfl (Nat.le_of_ble_eq_true rfl) dX9_decider_22 ?_
    refine V.aload_n dX9_decider_25 rfl rfl ?_
    obtain ⟨x16, h17, h⟩ := bnd h
    refine V.getF (gI_F h17) CF9 (Nat.le_of_ble_eq_true rfl) fl_RX9_25 dX9_decider_26 ?_
    obtain ⟨p18, h19, h⟩ := bnd h
    have w20 := w_X10_hasBit (g := g) (A := p13.2) h19
    refine V.callSNi (args := [LI p13.1, LI x16]) (st := []) w20.1 mk_X10_hasBit w20.2 ml_RX9_91 sm_X10_hasBit rfl (Nat.le_of_ble_eq_true rfl) (by decide) rfl (Nat.le_of_ble_eq_true rfl) dX9_decider_29 ?_
    refine V.if_eq (tgt := 42) dX9_decider_32 (by decide) (fun c21 => ?_) (fun c21 => ?_)
    · have h := (if_pos c21).symm.trans h
      refine V.iinc (ls' := [some (LR v0), some (LR v1), some (LI (v2 + (1 : Int32)))]) dX9_decider_42 rfl ki_1 (by decide) rfl rfl ?_
      refine V.goto (tgt := 2) dX9_decider_45 (by decide) ?_
      refine V.weak [true, true, true] ?_
      exact hk2 h
    · have h := (if_neg c21).symm.trans h
      refine V.aload_n dX9_decider_35 rfl rfl ?_
      obtain ⟨x22, h23, h⟩ := bnd h
      refine V.getFN (gR_F h23) CF3 (Nat.le_of_ble_eq_true rfl) fl_RX9_78 dX9_decider_36 ?_
      refine V.iload_n dX9_decider_39 rfl rfl ?_
      obtain ⟨x24, h25, h⟩ := bnd h
      refine V.iald h25 dX9_decider_40 ?_
      obtain rfl := Option.some.inj h
      exact V.ireturn dX9_decider_41
def l_X9_decider_2 (N : Nat) : Nat → LH → Option Nat → Option Nat → Int32 → Option (Int32 × LH)
  | 0, _, _, _, _ => none
  | n + 1, A, v0, v1, v2 => b_X9_decider_2 N (l_X9_decider_2 N n) A v0 v1 v2
theorem wl_X9_decider_2 {g : GG} {n0 z0 : Nat} (N : Nat) : ∀ (n : Nat) {A : LH} {v0 : Option Nat} {v1 : Option Nat} {v2 : Int32} {p : Int32 × LH}, l_X9_decider_2 N n A v0 v1 v2 = some p → V g m_X9_decider 5 n0 z0 (some (LI p.1)) p.2 A 2 [some (LR v0), some (LR v1), some (LI v2)] []
  | 0, _, _, _, _, _, h => nomatch h
  | n + 1, _, _, _, _, _, h => wb_X9_decider_2 N (wl_X9_decider_2 N n) h
def b_X9_decider (N : Nat) (A : LH) (v0 : Option Nat) (v1 : Option Nat) : Option (Int32 × LH) :=
  l_X9_decider_2 N N A v0 v1 (0 : Int32)
set_option maxRecDepth 4000 in
theorem wb_X9_decider {g : GG} {n0 z0 : Nat} (N : Nat) {A : LH} {v0 : Option Nat} {v1 : Option Nat} {p : Int32 × LH} (h : b_X9_decider N A v0 v1 = some p) : V g m_X9_decider 5 n0 z0 (some (LI p.1)) p.2 A 0 [some (LR v0), some (LR v1)] [] := by
  unfold b_X9_decider at h
  refine V.iconst dX9_decider_0 ki_0 ?_
  refine V.istore_n (ls' := [some (LR v0), some (LR v1), some (LI (0 : Int32))]) dX9_decider_1 rfl (by decide) rfl rfl ?_
  refine V.weak [true, true, true] ?_
  exact wl_X9_decider_2 N N h
def f_X9_decider (N : Nat) (A : LH) (v0 : Option Nat) (v1 : Option Nat) : Option (Int32 × LH) := if isO A v0 9 = true then b_X9_decider N A v0 v1 else none
theorem w_X9_decider {g : GG} (N : Nat) {A : LH} {v0 : Option Nat} {v1 : Option Nat} {p : Int32 × LH} (h : f_X9_decider N A v0 v1 = some p) : Ct g m_X9_decider 5 [LR v0, LR v1] A (some (LI p.1)) p.2 := by
  unfold f_X9_decider at h
  obtain ⟨ho, h⟩ := ifN h
  exact ⟨wb_X9_decider N h, rfl⟩
theorem oo_X9_decider {N : Nat} {A : LH} {v0 : Option Nat} {v1 : Option Nat} {p : Int32 × LH} (h : f_X9_decider N A v0 v1 = some p) : isO A v0 9 = true := by unfold f_X9_decider at h; exact (ifN h).1
def b_X9_lets (N : Nat) (A : LH) (v0 : Option Nat) (v1 : Option Nat) : Option (Int32 × LH) :=
  (f_X9_decider N A v0 v1).bind fun p1 => (f_X3_lineAt p1.2 v1 p1.1).bind fun p4 => if p4 = none then some ((0 : Int32), p1.2) else (gI p1.2 p4 0 0).bind fun x8 => if x8 = 0 then some ((0 : Int32), p1.2) else some ((1 : Int32), p1.2)
set_option maxRecDepth 4000 in
theorem wb_X9_lets {g : GG} {n0 z0 : Nat} (N : Nat) {A : LH} {v0 : Option Nat} {v1 : Option Nat} {p : Int32 × LH} (h : b_X9_lets N A v0 v1 = some p) : V g m_X9_lets 6 n0 z0 (some (LI p.1)) p.2 A 0 [some (LR v0), some (LR v1)] [] := by
  unfold b_X9_lets at h
  refine V.aload_n dX9_lets_0 rfl rfl ?_
  refine V.aload_n dX9_lets_1 rfl rfl ?_
  refine V.aload_n dX9_lets_2 rfl rfl ?_
  obtain ⟨p1, h2, h⟩ := bnd h
  have w3 := w_X9_decider (g := g) N h2
  refine V.callVi (args := [LR v1]) (st := [LR v1]) w3.1 (oo_X9_decider h2) mk_X9_decider w3.2 vc_9 ml_RX9_95 im_X9_decider se_X9_decider rfl (Nat.le_of_ble_eq_true rfl) (by decide) rfl (Nat.le_of_ble_eq_true rfl) dX9_lets_3 ?_
  obtain ⟨p4, h5, h⟩ := bnd h
  have w6 := w_X3_lineAt (g := g) h5
  refine V.callVr (args := [LI p1.1]) (st := []) w6.1 (oo_X3_lineAt h5) mk_X3_lineAt w6.2 vc_3 ml_RX9_83 im_X3_lineAt se_X3_lineAt rfl (Nat.le_of_ble_eq_true rfl) (by decide) rfl (Nat.le_of_ble_eq_true rfl) dX9_lets_6 ?_
  refine V.astore_n (ls' := [some (LR v0), some (LR v1), some (LR p4)]) dX9_lets_9 rfl (by decide) rfl rfl ?_
  refine V.aload_n dX9_lets_10 rfl rfl ?_
  refine V.ifnull_ (tgt := 25) dX9_lets_11 (by decide) (fun c11 => ?_) (fun c11 => ?_)
  · have h := (if_pos c11).symm.trans h
    refine V.iconst dX9_lets_25 ki_0 ?_
    obtain rfl := Option.some.inj h
    exact V.ireturn dX9_lets_26
  · have h := (if_neg c11).symm.trans h
    refine V.aload_n dX9_lets_14 rfl rfl ?_
    obtain ⟨x8, h9, h⟩ := bnd h
    refine V.getFN (gI_F h9) CF0 (Nat.le_of_ble_eq_true rfl) fl_RX9_99 dX9_lets_15 ?_
    refine V.if_eq (tgt := 25) dX9_lets_18 (by decide) (fun c10 => ?_) (fun c10 => ?_)
    · have h := (if_pos c10).symm.trans h
      refine V.iconst dX9_lets_25 ki_0 ?_
      obtain rfl := Option.some.inj h
      exact V.ireturn dX9_lets_26
    · have h := (if_neg c10).symm.trans h
      refine V.iconst dX9_lets_21 ki_1 ?_
      refine V.goto (tgt := 26) dX9_lets_22 (by decide) ?_
      obtain rfl := Option.some.inj h
      exact V.ireturn dX9_lets_26
def f_X9_lets (N : Nat) (A : LH) (v0 : Option Nat) (v1 : Option Nat) : Option (Int32 × LH) := if isO A v0 9 = true then zc (b_X9_lets N A v0 v1) else none
theorem w_X9_lets {g : GG} (N : Nat) {A : LH} {v0 : Option Nat} {v1 : Option Nat} {p : Int32 × LH} (h : f_X9_lets N A v0 v1 = some p) : Ct g m_X9_lets 6 [LR v0, LR v1] A (some (LI p.1)) p.2 := by
  unfold f_X9_lets at h
  obtain ⟨ho, h⟩ := ifN h
  obtain ⟨h, hz⟩ := zc_sp h
  exact ⟨wb_X9_lets N h, (RTz hz)⟩
theorem oo_X9_lets {N : Nat} {A : LH} {v0 : Option Nat} {v1 : Option Nat} {p : Int32 × LH} (h : f_X9_lets N A v0 v1 = some p) : isO A v0 9 = true := by unfold f_X9_lets at h; exact (ifN h).1
def b_X9_linesHeld_4 (N : Nat) (k4 : LH → Option Nat → Option Nat → Int32 → Int32 → Option (Int32 × LH)) (A : LH) (v0 : Option Nat) (v1 : Option Nat) (v2 : Int32) (v3 : Int32) : Option (Int32 × LH) :=
  (gR A v1 3 1).bind fun x1 => (ln6 A x1).bind fun x3 => if x3 ≤ v3 then some (v2, A) else (gR A v1 3 1).bind fun x6 => (aR A x6 3 v3).bind fun x8 => (f_X9_hoursHeld N A v0 x8).bind fun p10 => (gI p10.2 v0 9 5).bind fun x13 => (f_X10_hasBit p10.1 x13).bind fun p15 => if p15 = 0 then k4 p10.2 v0 v1 v2 (v3 + (1 : Int32)) else k4 p10.2 v0 v1 (v2 ||| ((1 : Int32) <<< (v3 &&& 31))) (v3 + (1 : Int32))
set_option maxRecDepth 4000 in
theorem wb_X9_linesHeld_4 {g : GG} {n0 z0 : Nat} (N : Nat) {k4 : LH → Option Nat → Option Nat → Int32 → Int32 → Option (Int32 × LH)} {A : LH} {v0 : Option Nat} {v1 : Option Nat} {v2 : Int32} {v3 : Int32} {p : Int32 × LH} (hk4 : ∀ {A : LH} {v0 : Option Nat} {v1 : Option Nat} {v2 : Int32} {v3 : Int32} {p : Int32 × LH}, k4 A v0 v1 v2 v3 = some p → V g m_X9_linesHeld 5 n0 z0 (some (LI p.1)) p.2 A 4 [some (LR v0), some (LR v1), some (LI v2), some (LI v3)] []) (h : b_X9_linesHeld_4 N k4 A v0 v1 v2 v3 = some p) : V g m_X9_linesHeld 5 n0 z0 (some (LI p.1)) p.2 A 4 [some (LR v0), some (LR v1), some (LI v2), some (LI v3)] [] := by
  unfold b_X9_linesHeld_4 at h
  refine V.iload_n dX9_linesHeld_4 rfl rfl ?_
  refine V.aload_n dX9_linesHeld_5 rfl rfl ?_
  obtain ⟨x1, h2, h⟩ := bnd h
  refine V.getFN (gR_F h2) CF3 (Nat.le_of_ble_eq_true rfl) fl_RX9_104 dX9_linesHeld_6 ?_
  obtain ⟨x3, h4, h⟩ := bnd h
  refine V.alen (ln6_l h4) (ln6_t h4) dX9_linesHeld_9 ?_
  refine V.icmp_ge (tgt := 45) dX9_linesHeld_10 (by decide) (fun c5 => ?_) (fun c5 => ?_)
  · have h := (if_pos c5).symm.trans h
    refine V.iload_n dX9_linesHeld_45 rfl rfl ?_
    obtain rfl := Option.some.inj h
    exact V.ireturn dX9_linesHeld_46
  · have h := (if_neg c5).symm.trans h
    refine V.aload_n dX9_linesHeld_13 rfl rfl ?_
    refine V.aload_n dX9_linesHeld_14 rfl rfl ?_
    obtain ⟨x6, h7, h⟩ := bnd h
    refine V.getFN (gR_F h7) CF3 (Nat.le_of_ble_eq_true rfl) fl_RX9_104 dX9_linesHeld_15 ?_
    refine V.iload_n dX9_linesHeld_18 rfl rfl ?_
    obtain ⟨x8, h9, h⟩ := bnd h
    refine V.aald h9 rfl dX9_linesHeld_19 ?_
    obtain ⟨p10, h11, h⟩ := bnd h
    have w12 := w_X9_hoursHeld (g := g) N h11
    refine V.callVi (args := [LR x8]) (st := []) w12.1 (oo_X9_hoursHeld h11) mk_X9_hoursHeld w12.2 vc_9 ml_RX9_87 im_X9_hoursHeld se_X9_hoursHeld rfl (Nat.le_of_ble_eq_true rfl) (by decide) rfl (Nat.le_of_ble_eq_true rfl) dX9_linesHeld_20 ?_
    refine V.aload_n dX9_linesHeld_23 rfl rfl ?_
    obtain ⟨x13, h14, h⟩ := bnd h
    refine V.getF (gI_F h14) CF9 (Nat.le_of_ble_eq_true rfl) fl_RX9_25 dX9_linesHeld_24 ?_
    obtain ⟨p15, h16, h⟩ := bnd h
    have w17 := w_X10_hasBit (g := g) (A := p10.2) h16
    refine V.callSNi (args := [LI p10.1, LI x13]) (st := []) w17.1 mk_X10_hasBit w17.2 ml_RX9_91 sm_X10_hasBit rfl (Nat.le_of_ble_eq_true rfl) (by decide) rfl (Nat.le_of_ble_eq_true rfl) dX9_linesHeld_27 ?_
    refine V.if_eq (tgt := 39) dX9_linesHeld_30 (by decide) (fun c18 => ?_) (fun c18 => ?_)
    · have h := (if_pos c18).symm.trans h
      refine V.iinc (ls' := [some (LR v0), some (LR v1), some (LI v2), some (LI (v3 + (1 : Int32)))]) dX9_linesHeld_39 rfl ki_1 (by decide) rfl rfl ?_
      refine V.goto (tgt := 4) dX9_linesHeld_42 (by decide) ?_
      refine V.weak [true, true, true, true] ?_
      exact hk4 h
    · have h := (if_neg c18).symm.trans h
      refine V.iload_n dX9_linesHeld_33 rfl rfl ?_
      refine V.iconst dX9_linesHeld_34 ki_1 ?_
      refine V.iload_n dX9_linesHeld_35 rfl rfl ?_
      refine V.ishl dX9_linesHeld_36 ?_
      refine V.ior dX9_linesHeld_37 ?_
      refine V.istore_n (ls' := [some (LR v0), some (LR v1), some (LI (v2 ||| ((1 : Int32) <<< (v3 &&& 31)))), some (LI v3)]) dX9_linesHeld_38 rfl (by decide) rfl rfl ?_
      refine V.iinc (ls' := [some (LR v0), some (LR v1), some (LI (v2 ||| ((1 : Int32) <<< (v3 &&& 31)))), some (LI (v3 + (1 : Int32)))]) dX9_linesHeld_39 rfl ki_1 (by decide) rfl rfl ?_
      refine V.goto (tgt := 4) dX9_linesHeld_42 (by decide) ?_
      refine V.weak [true, true, true, true] ?_
      exact hk4 h
def l_X9_linesHeld_4 (N : Nat) : Nat → LH → Option Nat → Option Nat → Int32 → Int32 → Option (Int32 × LH)
  | 0, _, _, _, _, _ => none
  | n + 1, A, v0, v1, v2, v3 => b_X9_linesHeld_4 N (l_X9_linesHeld_4 N n) A v0 v1 v2 v3
theorem wl_X9_linesHeld_4 {g : GG} {n0 z0 : Nat} (N : Nat) : ∀ (n : Nat) {A : LH} {v0 : Option Nat} {v1 : Option Nat} {v2 : Int32} {v3 : Int32} {p : Int32 × LH}, l_X9_linesHeld_4 N n A v0 v1 v2 v3 = some p → V g m_X9_linesHeld 5 n0 z0 (some (LI p.1)) p.2 A 4 [some (LR v0), some (LR v1), some (LI v2), some (LI v3)] []
  | 0, _, _, _, _, _, _, h => nomatch h
  | n + 1, _, _, _, _, _, _, h => wb_X9_linesHeld_4 N (wl_X9_linesHeld_4 N n) h
def b_X9_linesHeld (N : Nat) (A : LH) (v0 : Option Nat) (v1 : Option Nat) : Option (Int32 × LH) :=
  l_X9_linesHeld_4 N N A v0 v1 (0 : Int32) (0 : Int32)
set_option maxRecDepth 4000 in
theorem wb_X9_linesHeld {g : GG} {n0 z0 : Nat} (N : Nat) {A : LH} {v0 : Option Nat} {v1 : Option Nat} {p : Int32 × LH} (h : b_X9_linesHeld N A v0 v1 = some p) : V g m_X9_linesHeld 5 n0 z0 (some (LI p.1)) p.2 A 0 [some (LR v0), some (LR v1)] [] := by
  unfold b_X9_linesHeld at h
  refine V.iconst dX9_linesHeld_0 ki_0 ?_
  refine V.istore_n (ls' := [some (LR v0), some (LR v1), some (LI (0 : Int32))]) dX9_linesHeld_1 rfl (by decide) rfl rfl ?_
  refine V.iconst dX9_linesHeld_2 ki_0 ?_
  refine V.istore_n (ls' := [some (LR v0), some (LR v1), some (LI (0 : Int32)), some (LI (0 : Int32))]) dX9_linesHeld_3 rfl (by decide) rfl rfl ?_
  refine V.weak [true, true, true, true] ?_
  exact wl_X9_linesHeld_4 N N h
def f_X9_linesHeld (N : Nat) (A : LH) (v0 : Option Nat) (v1 : Option Nat) : Option (Int32 × LH) := if isO A v0 9 = true then b_X9_linesHeld N A v0 v1 else none
theorem w_X9_linesHeld {g : GG} (N : Nat) {A : LH} {v0 : Option Nat} {v1 : Option Nat} {p : Int32 × LH} (h : f_X9_linesHeld N A v0 v1 = some p) : Ct g m_X9_linesHeld 5 [LR v0, LR v1] A (some (LI p.1)) p.2 := by
  unfold f_X9_linesHeld at h
  obtain ⟨ho, h⟩ := ifN h
  exact ⟨wb_X9_linesHeld N h, rfl⟩
theorem oo_X9_linesHeld {N : Nat} {A : LH} {v0 : Option Nat} {v1 : Option Nat} {p : Int32 × LH} (h : f_X9_linesHeld N A v0 v1 = some p) : isO A v0 9 = true := by unfold f_X9_linesHeld at h; exact (ifN h).1
def b_X9_hoursLet_63 (N : Nat) (k8 : LH → Option Nat → Option Nat → Int32 → Int32 → Int32 → Option (Int32 × LH)) (A : LH) (v0 : Option Nat) (v1 : Option Nat) (v2 : Int32) (v3 : Int32) (v4 : Int32) (v6 : Int32) : Option (Int32 × LH) :=
  k8 A v0 v1 (v2 &&& (v6 ^^^ (-1 : Int32))) v3 (v4 + (1 : Int32))
set_option maxRecDepth 4000 in
theorem wb_X9_hoursLet_63 {g : GG} {n0 z0 : Nat} (N : Nat) {k8 : LH → Option Nat → Option Nat → Int32 → Int32 → Int32 → Option (Int32 × LH)} {A : LH} {v0 : Option Nat} {v1 : Option Nat} {v2 : Int32} {v3 : Int32} {v4 : Int32} {v6 : Int32} {p : Int32 × LH} (hk8 : ∀ {A : LH} {v0 : Option Nat} {v1 : Option Nat} {v2 : Int32} {v3 : Int32} {v4 : Int32} {p : Int32 × LH}, k8 A v0 v1 v2 v3 v4 = some p → V g m_X9_hoursLet 5 n0 z0 (some (LI p.1)) p.2 A 8 [some (LR v0), some (LR v1), some (LI v2), some (LI v3), some (LI v4)] []) (h : b_X9_hoursLet_63 N k8 A v0 v1 v2 v3 v4 v6 = some p) : V g m_X9_hoursLet 5 n0 z0 (some (LI p.1)) p.2 A 63 [some (LR v0), some (LR v1), some (LI v2), some (LI v3), some (LI v4), none, some (LI v6)] [] := by
  unfold b_X9_hoursLet_63 at h
  refine V.iload_n dX9_hoursLet_63 rfl rfl ?_
  refine V.iload dX9_hoursLet_64 rfl ?_
  refine V.iconst dX9_hoursLet_66 ki_m1 ?_
  refine V.ixor dX9_hoursLet_67 ?_
  refine V.iand dX9_hoursLet_68 ?_
  refine V.istore_n (ls' := [some (LR v0), some (LR v1), some (LI (v2 &&& (v6 ^^^ (-1 : Int32)))), some (LI v3), some (LI v4), none, some (LI v6)]) dX9_hoursLet_69 rfl (by decide) rfl rfl ?_
  refine V.iinc (ls' := [some (LR v0), some (LR v1), some (LI (v2 &&& (v6 ^^^ (-1 : Int32)))), some (LI v3), some (LI (v4 + (1 : Int32))), none, some (LI v6)]) dX9_hoursLet_70 rfl ki_1 (by decide) rfl rfl ?_
  refine V.goto (tgt := 8) dX9_hoursLet_73 (by decide) ?_
  refine V.weak [true, true, true, true, true] ?_
  exact hk8 h
def b_X9_hoursLet_8 (N : Nat) (k8 : LH → Option Nat → Option Nat → Int32 → Int32 → Int32 → Option (Int32 × LH)) (A : LH) (v0 : Option Nat) (v1 : Option Nat) (v2 : Int32) (v3 : Int32) (v4 : Int32) : Option (Int32 × LH) :=
  (gR A v1 3 2).bind fun x1 => (ln6 A x1).bind fun x3 => if x3 ≤ v4 then some (v3, A) else if v2 = 0 then some (v3, A) else (gR A v1 3 2).bind fun x7 => (aI A x7 0 v4).bind fun x9 => (f_X3_lineAt A v1 x9).bind fun p11 => (f_X9_hoursHeld N A v0 p11).bind fun p14 => if p11 = none then b_X9_hoursLet_63 N k8 p14.2 v0 v1 v2 v3 v4 p14.1 else (gI p14.2 p11 0 0).bind fun x18 => if x18 = 0 then b_X9_hoursLet_63 N k8 p14.2 v0 v1 v2 v3 v4 p14.1 else b_X9_hoursLet_63 N k8 p14.2 v0 v1 v2 (v3 ||| (v2 &&& p14.1)) v4 p14.1
set_option maxRecDepth 4000 in
theorem wb_X9_hoursLet_8 {g : GG} {n0 z0 : Nat} (N : Nat) {k8 : LH → Option Nat → Option Nat → Int32 → Int32 → Int32 → Option (Int32 × LH)} {A : LH} {v0 : Option Nat} {v1 : Option Nat} {v2 : Int32} {v3 : Int32} {v4 : Int32} {p : Int32 × LH} (hk8 : ∀ {A : LH} {v0 : Option Nat} {v1 : Option Nat} {v2 : Int32} {v3 : Int32} {v4 : Int32} {p : Int32 × LH}, k8 A v0 v1 v2 v3 v4 = some p → V g m_X9_hoursLet 5 n0 z0 (some (LI p.1)) p.2 A 8 [some (LR v0), some (LR v1), some (LI v2), some (LI v3), some (LI v4)] []) (h : b_X9_hoursLet_8 N k8 A v0 v1 v2 v3 v4 = some p) : V g m_X9_hoursLet 5 n0 z0 (some (LI p.1)) p.2 A 8 [some (LR v0), some (LR v1), some (LI v2), some (LI v3), some (LI v4)] [] := by
  unfold b_X9_hoursLet_8 at h
  refine V.iload dX9_hoursLet_8 rfl ?_
  refine V.aload_n dX9_hoursLet_10 rfl rfl ?_
  obtain ⟨x1, h2, h⟩ := bnd h
  refine V.getFN (gR_F h2) CF3 (Nat.le_of_ble_eq_true rfl) fl_RX9_78 dX9_hoursLet_11 ?_
  obtain ⟨x3, h4, h⟩ := bnd h
  refine V.alen (ln6_l h4) (ln6_t h4) dX9_hoursLet_14 ?_
  refine V.icmp_ge (tgt := 76) dX9_hoursLet_15 (by decide) (fun c5 => ?_) (fun c5 => ?_)
  · have h := (if_pos c5).symm.trans h
    refine V.iload_n dX9_hoursLet_76 rfl rfl ?_
    obtain rfl := Option.some.inj h
    exact V.ireturn dX9_hoursLet_77
  · have h := (if_neg c5).symm.trans h
    refine V.iload_n dX9_hoursLet_18 rfl rfl ?_
    refine V.if_eq (tgt := 76) dX9_hoursLet_19 (by decide) (fun c6 => ?_) (fun c6 => ?_)
    · have h := (if_pos c6).symm.trans h
      refine V.iload_n dX9_hoursLet_76 rfl rfl ?_
      obtain rfl := Option.some.inj h
      exact V.ireturn dX9_hoursLet_77
    · have h := (if_neg c6).symm.trans h
      refine V.aload_n dX9_hoursLet_22 rfl rfl ?_
      refine V.aload_n dX9_hoursLet_23 rfl rfl ?_
      obtain ⟨x7, h8, h⟩ := bnd h
      refine V.getFN (gR_F h8) CF3 (Nat.le_of_ble_eq_true rfl) fl_RX9_78 dX9_hoursLet_24 ?_
      refine V.iload dX9_hoursLet_27 rfl ?_
      obtain ⟨x9, h10, h⟩ := bnd h
      refine V.iald h10 dX9_hoursLet_29 ?_
      obtain ⟨p11, h12, h⟩ := bnd h
      have w13 := w_X3_lineAt (g := g) h12
      refine V.callVr (args := [LI x9]) (st := []) w13.1 (oo_X3_lineAt h12) mk_X3_lineAt w13.2 vc_3 ml_RX9_83 im_X3_lineAt se_X3_lineAt rfl (Nat.le_of_ble_eq_true rfl) (by decide) rfl (Nat.le_of_ble_eq_true rfl) dX9_hoursLet_30 ?_
      refine V.astore (ls' := [some (LR v0), some (LR v1), some (LI v2), some (LI v3), some (LI v4), some (LR p11)]) dX9_hoursLet_33 (by decide) rfl rfl ?_
      refine V.aload_n dX9_hoursLet_35 rfl rfl ?_
      refine V.aload dX9_hoursLet_36 rfl ?_
      obtain ⟨p14, h15, h⟩ := bnd h
      have w16 := w_X9_hoursHeld (g := g) N h15
      refine V.callVi (args := [LR p11]) (st := []) w16.1 (oo_X9_hoursHeld h15) mk_X9_hoursHeld w16.2 vc_9 ml_RX9_87 im_X9_hoursHeld se_X9_hoursHeld rfl (Nat.le_of_ble_eq_true rfl) (by decide) rfl (Nat.le_of_ble_eq_true rfl) dX9_hoursLet_38 ?_
      refine V.istore (ls' := [some (LR v0), some (LR v1), some (LI v2), some (LI v3), some (LI v4), some (LR p11), some (LI p14.1)]) dX9_hoursLet_41 (by decide) rfl rfl ?_
      refine V.aload dX9_hoursLet_43 rfl ?_
      refine V.ifnull_ (tgt := 63) dX9_hoursLet_45 (by decide) (fun c21 => ?_) (fun c21 => ?_)
      · have h := (if_pos c21).symm.trans h
        refine V.weak [true, true, true, true, true, false, true] ?_
        exact wb_X9_hoursLet_63 N hk8 h
      · have h := (if_neg c21).symm.trans h
        refine V.aload dX9_hoursLet_48 rfl ?_
        obtain ⟨x18, h19, h⟩ := bnd h
        refine V.getFN (gI_F h19) CF0 (Nat.le_of_ble_eq_true rfl) fl_RX9_99 dX9_hoursLet_50 ?_
        refine V.if_eq (tgt := 63) dX9_hoursLet_53 (by decide) (fun c20 => ?_) (fun c20 => ?_)
        · have h := (if_pos c20).symm.trans h
          refine V.weak [true, true, true, true, true, false, true] ?_
          exact wb_X9_hoursLet_63 N hk8 h
        · have h := (if_neg c20).symm.trans h
          refine V.iload_n dX9_hoursLet_56 rfl rfl ?_
          refine V.iload_n dX9_hoursLet_57 rfl rfl ?_
          refine V.iload dX9_hoursLet_58 rfl ?_
          refine V.iand dX9_hoursLet_60 ?_
          refine V.ior dX9_hoursLet_61 ?_
          refine V.istore_n (ls' := [some (LR v0), some (LR v1), some (LI v2), some (LI (v3 ||| (v2 &&& p14.1))), some (LI v4), some (LR p11), some (LI p14.1)]) dX9_hoursLet_62 rfl (by decide) rfl rfl ?_
          refine V.weak [true, true, true, true, true, false, true] ?_
          exact wb_X9_hoursLet_63 N hk8 h
def l_X9_hoursLet_8 (N : Nat) : Nat → LH → Option Nat → Option Nat → Int32 → Int32 → Int32 → Option (Int32 × LH)
  | 0, _, _, _, _, _, _ => none
  | n + 1, A, v0, v1, v2, v3, v4 => b_X9_hoursLet_8 N (l_X9_hoursLet_8 N n) A v0 v1 v2 v3 v4
theorem wl_X9_hoursLet_8 {g : GG} {n0 z0 : Nat} (N : Nat) : ∀ (n : Nat) {A : LH} {v0 : Option Nat} {v1 : Option Nat} {v2 : Int32} {v3 : Int32} {v4 : Int32} {p : Int32 × LH}, l_X9_hoursLet_8 N n A v0 v1 v2 v3 v4 = some p → V g m_X9_hoursLet 5 n0 z0 (some (LI p.1)) p.2 A 8 [some (LR v0), some (LR v1), some (LI v2), some (LI v3), some (LI v4)] []
  | 0, _, _, _, _, _, _, _, h => nomatch h
  | n + 1, _, _, _, _, _, _, _, h => wb_X9_hoursLet_8 N (wl_X9_hoursLet_8 N n) h
def b_X9_hoursLet (N : Nat) (A : LH) (v0 : Option Nat) (v1 : Option Nat) : Option (Int32 × LH) :=
  l_X9_hoursLet_8 N N A v0 v1 (16777215 : Int32) (0 : Int32) (0 : Int32)
set_option maxRecDepth 4000 in
theorem wb_X9_hoursLet {g : GG} {n0 z0 : Nat} (N : Nat) {A : LH} {v0 : Option Nat} {v1 : Option Nat} {p : Int32 × LH} (h : b_X9_hoursLet N A v0 v1 = some p) : V g m_X9_hoursLet 5 n0 z0 (some (LI p.1)) p.2 A 0 [some (LR v0), some (LR v1)] [] := by
  unfold b_X9_hoursLet at h
  refine V.ldc kc_RX9_108 dX9_hoursLet_0 ?_
  refine V.istore_n (ls' := [some (LR v0), some (LR v1), some (LI (16777215 : Int32))]) dX9_hoursLet_2 rfl (by decide) rfl rfl ?_
  refine V.iconst dX9_hoursLet_3 ki_0 ?_
  refine V.istore_n (ls' := [some (LR v0), some (LR v1), some (LI (16777215 : Int32)), some (LI (0 : Int32))]) dX9_hoursLet_4 rfl (by decide) rfl rfl ?_
  refine V.iconst dX9_hoursLet_5 ki_0 ?_
  refine V.istore (ls' := [some (LR v0), some (LR v1), some (LI (16777215 : Int32)), some (LI (0 : Int32)), some (LI (0 : Int32))]) dX9_hoursLet_6 (by decide) rfl rfl ?_
  refine V.weak [true, true, true, true, true] ?_
  exact wl_X9_hoursLet_8 N N h
def f_X9_hoursLet (N : Nat) (A : LH) (v0 : Option Nat) (v1 : Option Nat) : Option (Int32 × LH) := if isO A v0 9 = true then b_X9_hoursLet N A v0 v1 else none
theorem w_X9_hoursLet {g : GG} (N : Nat) {A : LH} {v0 : Option Nat} {v1 : Option Nat} {p : Int32 × LH} (h : f_X9_hoursLet N A v0 v1 = some p) : Ct g m_X9_hoursLet 5 [LR v0, LR v1] A (some (LI p.1)) p.2 := by
  unfold f_X9_hoursLet at h
  obtain ⟨ho, h⟩ := ifN h
  exact ⟨wb_X9_hoursLet N h, rfl⟩
theorem oo_X9_hoursLet {N : Nat} {A : LH} {v0 : Option Nat} {v1 : Option Nat} {p : Int32 × LH} (h : f_X9_hoursLet N A v0 v1 = some p) : isO A v0 9 = true := by unfold f_X9_hoursLet at h; exact (ifN h).1
def b_X9_hoursDecided_6 (N : Nat) (k6 : LH → Option Nat → Option Nat → Int32 → Int32 → Int32 → Option (Int32 × LH)) (A : LH) (v0 : Option Nat) (v1 : Option Nat) (v2 : Int32) (v3 : Int32) (v4 : Int32) : Option (Int32 × LH) :=
  (gR A v1 3 2).bind fun x1 => (ln6 A x1).bind fun x3 => if x3 ≤ v4 then some ((0 : Int32), A) else if v3 = 0 then some ((0 : Int32), A) else (gR A v1 3 2).bind fun x7 => (aI A x7 0 v4).bind fun x9 => (f_X3_lineAt A v1 x9).bind fun p11 => (f_X9_hoursHeld N A v0 p11).bind fun p14 => (gR p14.2 v1 3 2).bind fun x17 => (aI p14.2 x17 0 v4).bind fun x19 => if x19 = v2 then some ((v3 &&& p14.1), p14.2) else k6 p14.2 v0 v1 v2 (v3 &&& (p14.1 ^^^ (-1 : Int32))) (v4 + (1 : Int32))
set_option maxRecDepth 4000 in
theorem wb_X9_hoursDecided_6 {g : GG} {n0 z0 : Nat} (N : Nat) {k6 : LH → Option Nat → Option Nat → Int32 → Int32 → Int32 → Option (Int32 × LH)} {A : LH} {v0 : Option Nat} {v1 : Option Nat} {v2 : Int32} {v3 : Int32} {v4 : Int32} {p : Int32 × LH} (hk6 : ∀ {A : LH} {v0 : Option Nat} {v1 : Option Nat} {v2 : Int32} {v3 : Int32} {v4 : Int32} {p : Int32 × LH}, k6 A v0 v1 v2 v3 v4 = some p → V g m_X9_hoursDecided 5 n0 z0 (some (LI p.1)) p.2 A 6 [some (LR v0), some (LR v1), some (LI v2), some (LI v3), some (LI v4)] []) (h : b_X9_hoursDecided_6 N k6 A v0 v1 v2 v3 v4 = some p) : V g m_X9_hoursDecided 5 n0 z0 (some (LI p.1)) p.2 A 6 [some (LR v0), some (LR v1), some (LI v2), some (LI v3), some (LI v4)] [] := by
  unfold b_X9_hoursDecided_6 at h
  refine V.iload dX9_hoursDecided_6 rfl ?_
  refine V.aload_n dX9_hoursDecided_8 rfl rfl ?_
  obtain ⟨x1, h2, h⟩ := bnd h
  refine V.getFN (gR_F h2) CF3 (Nat.le_of_ble_eq_true rfl) fl_RX9_78 dX9_hoursDecided_9 ?_
  obtain ⟨x3, h4, h⟩ := bnd h
  refine V.alen (ln6_l h4) (ln6_t h4) dX9_hoursDecided_12 ?_
  refine V.icmp_ge (tgt := 66) dX9_hoursDecided_13 (by decide) (fun c5 => ?_) (fun c5 => ?_)
  · have h := (if_pos c5).symm.trans h
    refine V.iconst dX9_hoursDecided_66 ki_0 ?_
    obtain rfl := Option.some.inj h
    exact V.ireturn dX9_hoursDecided_67
  · have h := (if_neg c5).symm.trans h
    refine V.iload_n dX9_hoursDecided_16 rfl rfl ?_
    refine V.if_eq (tgt := 66) dX9_hoursDecided_17 (by decide) (fun c6 => ?_) (fun c6 => ?_)
    · have h := (if_pos c6).symm.trans h
      refine V.iconst dX9_hoursDecided_66 ki_0 ?_
      obtain rfl := Option.some.inj h
      exact V.ireturn dX9_hoursDecided_67
    · have h := (if_neg c6).symm.trans h
      refine V.aload_n dX9_hoursDecided_20 rfl rfl ?_
      refine V.aload_n dX9_hoursDecided_21 rfl rfl ?_
      refine V.aload_n dX9_hoursDecided_22 rfl rfl ?_
      obtain ⟨x7, h8, h⟩ := bnd h
      refine V.getFN (gR_F h8) CF3 (Nat.le_of_ble_eq_true rfl) fl_RX9_78 dX9_hoursDecided_23 ?_
      refine V.iload dX9_hoursDecided_26 rfl ?_
      obtain ⟨x9, h10, h⟩ := bnd h
      refine V.iald h10 dX9_hoursDecided_28 ?_
      obtain ⟨p11, h12, h⟩ := bnd h
      have w13 := w_X3_lineAt (g := g) h12
      refine V.callVr (args := [LI x9]) (st := [LR v0]) w13.1 (oo_X3_lineAt h12) mk_X3_lineAt w13.2 vc_3 ml_RX9_83 im_X3_lineAt se_X3_lineAt rfl (Nat.le_of_ble_eq_true rfl) (by decide) rfl (Nat.le_of_ble_eq_true rfl) dX9_hoursDecided_29 ?_
      obtain ⟨p14, h15, h⟩ := bnd h
      have w16 := w_X9_hoursHeld (g := g) N h15
      refine V.callVi (args := [LR p11]) (st := []) w16.1 (oo_X9_hoursHeld h15) mk_X9_hoursHeld w16.2 vc_9 ml_RX9_87 im_X9_hoursHeld se_X9_hoursHeld rfl (Nat.le_of_ble_eq_true rfl) (by decide) rfl (Nat.le_of_ble_eq_true rfl) dX9_hoursDecided_32 ?_
      refine V.istore (ls' := [some (LR v0), some (LR v1), some (LI v2), some (LI v3), some (LI v4), some (LI p14.1)]) dX9_hoursDecided_35 (by decide) rfl rfl ?_
      refine V.aload_n dX9_hoursDecided_37 rfl rfl ?_
      obtain ⟨x17, h18, h⟩ := bnd h
      refine V.getFN (gR_F h18) CF3 (Nat.le_of_ble_eq_true rfl) fl_RX9_78 dX9_hoursDecided_38 ?_
      refine V.iload dX9_hoursDecided_41 rfl ?_
      obtain ⟨x19, h20, h⟩ := bnd h
      refine V.iald h20 dX9_hoursDecided_43 ?_
      refine V.iload_n dX9_hoursDecided_44 rfl rfl ?_
      refine V.icmp_ne (tgt := 53) dX9_hoursDecided_45 (by decide) (fun c21 => ?_) (fun c21 => ?_)
      · have h := (if_neg c21).symm.trans h
        refine V.iload_n dX9_hoursDecided_53 rfl rfl ?_
        refine V.iload dX9_hoursDecided_54 rfl ?_
        refine V.iconst dX9_hoursDecided_56 ki_m1 ?_
        refine V.ixor dX9_hoursDecided_57 ?_
        refine V.iand dX9_hoursDecided_58 ?_
        refine V.istore_n (ls' := [some (LR v0), some (LR v1), some (LI v2), some (LI (v3 &&& (p14.1 ^^^ (-1 : Int32)))), some (LI v4), some (LI p14.1)]) dX9_hoursDecided_59 rfl (by decide) rfl rfl ?_
        refine V.iinc (ls' := [some (LR v0), some (LR v1), some (LI v2), some (LI (v3 &&& (p14.1 ^^^ (-1 : Int32)))), some (LI (v4 + (1 : Int32))), some (LI p14.1)]) dX9_hoursDecided_60 rfl ki_1 (by decide) rfl rfl ?_
        refine V.goto (tgt := 6) dX9_hoursDecided_63 (by decide) ?_
        refine V.weak [true, true, true, true, true] ?_
        exact hk6 h
      · have h := (if_pos c21).symm.trans h
        refine V.iload_n dX9_hoursDecided_48 rfl rfl ?_
        refine V.iload dX9_hoursDecided_49 rfl ?_
        refine V.iand dX9_hoursDecided_51 ?_
        obtain rfl := Option.some.inj h
        exact V.ireturn dX9_hoursDecided_52
def l_X9_hoursDecided_6 (N : Nat) : Nat → LH → Option Nat → Option Nat → Int32 → Int32 → Int32 → Option (Int32 × LH)
  | 0, _, _, _, _, _, _ => none
  | n + 1, A, v0, v1, v2, v3, v4 => b_X9_hoursDecided_6 N (l_X9_hoursDecided_6 N n) A v0 v1 v2 v3 v4
theorem wl_X9_hoursDecided_6 {g : GG} {n0 z0 : Nat} (N : Nat) : ∀ (n : Nat) {A : LH} {v0 : Option Nat} {v1 : Option Nat} {v2 : Int32} {v3 : Int32} {v4 : Int32} {p : Int32 × LH}, l_X9_hoursDecided_6 N n A v0 v1 v2 v3 v4 = some p → V g m_X9_hoursDecided 5 n0 z0 (some (LI p.1)) p.2 A 6 [some (LR v0), some (LR v1), some (LI v2), some (LI v3), some (LI v4)] []
  | 0, _, _, _, _, _, _, _, h => nomatch h
  | n + 1, _, _, _, _, _, _, _, h => wb_X9_hoursDecided_6 N (wl_X9_hoursDecided_6 N n) h
def b_X9_hoursDecided (N : Nat) (A : LH) (v0 : Option Nat) (v1 : Option Nat) (v2 : Int32) : Option (Int32 × LH) :=
  l_X9_hoursDecided_6 N N A v0 v1 v2 (16777215 : Int32) (0 : Int32)
set_option maxRecDepth 4000 in
theorem wb_X9_hoursDecided {g : GG} {n0 z0 : Nat} (N : Nat) {A : LH} {v0 : Option Nat} {v1 : Option Nat} {v2 : Int32} {p : Int32 × LH} (h : b_X9_hoursDecided N A v0 v1 v2 = some p) : V g m_X9_hoursDecided 5 n0 z0 (some (LI p.1)) p.2 A 0 [some (LR v0), some (LR v1), some (LI v2)] [] := by
  unfold b_X9_hoursDecided at h
  refine V.ldc kc_RX9_108 dX9_hoursDecided_0 ?_
  refine V.istore_n (ls' := [some (LR v0), some (LR v1), some (LI v2), some (LI (16777215 : Int32))]) dX9_hoursDecided_2 rfl (by decide) rfl rfl ?_
  refine V.iconst dX9_hoursDecided_3 ki_0 ?_
  refine V.istore (ls' := [some (LR v0), some (LR v1), some (LI v2), some (LI (16777215 : Int32)), some (LI (0 : Int32))]) dX9_hoursDecided_4 (by decide) rfl rfl ?_
  refine V.weak [true, true, true, true, true] ?_
  exact wl_X9_hoursDecided_6 N N h
def f_X9_hoursDecided (N : Nat) (A : LH) (v0 : Option Nat) (v1 : Option Nat) (v2 : Int32) : Option (Int32 × LH) := if isO A v0 9 = true then b_X9_hoursDecided N A v0 v1 v2 else none
theorem w_X9_hoursDecided {g : GG} (N : Nat) {A : LH} {v0 : Option Nat} {v1 : Option Nat} {v2 : Int32} {p : Int32 × LH} (h : f_X9_hoursDecided N A v0 v1 v2 = some p) : Ct g m_X9_hoursDecided 5 [LR v0, LR v1, LI v2] A (some (LI p.1)) p.2 := by
  unfold f_X9_hoursDecided at h
  obtain ⟨ho, h⟩ := ifN h
  exact ⟨wb_X9_hoursDecided N h, rfl⟩
theorem oo_X9_hoursDecided {N : Nat} {A : LH} {v0 : Option Nat} {v1 : Option Nat} {v2 : Int32} {p : Int32 × LH} (h : f_X9_hoursDecided N A v0 v1 v2 = some p) : isO A v0 9 = true := by unfold f_X9_hoursDecided at h; exact (ifN h).1
def b_X10_init (N : Nat) (A : LH) (v0 : Option Nat) : Option (LH) :=
  (f_X6_init (al A (.inr (6, [LR none, LI 0])) 2) (some (8 + hn A))).bind fun p1 => (pF p1 v0 10 0 (LR (some (8 + hn A)))).bind fun A4 => (gR (al A4 (.inr (2, [LR none, LR none, LR none, LI 0, LI 0, LI 0, LI 0])) 7) v0 10 0).bind fun x6 => (f_X2_init (al A4 (.inr (2, [LR none, LR none, LR none, LI 0, LI 0, LI 0, LI 0])) 7) (some (8 + hn A4)) x6).bind fun p8 => (pF p8 v0 10 1 (LR (some (8 + hn A4)))).bind fun A11 => (f_X8_init N (al A11 (.inr (8, [LR none, LR none, LR none, LR none])) 4) (some (8 + hn A11))).bind fun p13 => (pF p13 v0 10 2 (LR (some (8 + hn A11)))).bind fun A16 => (nR_ A16 5 (3 : Int32)).bind fun A18 => (pF A18 v0 10 3 (LR (some (8 + hn A16)))).bind fun A20 => (f_X9_init (al A20 (.inr (9, [LR none, LI 0, LI 0, LI 0, LI 0, LI 0, LI 0, LI 0, LI 0, LI 0, LI 0, LI 0])) 12) (some (8 + hn A20))).bind fun p22 => (pF p22 v0 10 4 (LR (some (8 + hn A20)))).bind fun A25 => (f_X4_init (al A25 (.inr (4, [LR none, LR none, LI 0, LI 0, LI 0, LI 0, LI 0, LI 0])) 8) (some (8 + hn A25))).bind fun p27 => (pF p27 v0 10 5 (LR (some (8 + hn A25)))).bind fun A30 => (pF A30 v0 10 6 (LR none)).bind fun A32 => (pF A32 v0 10 7 (LI (0 : Int32))).bind fun A34 => (pF A34 v0 10 8 (LI (-1 : Int32))).bind fun A36 => some A36
set_option maxRecDepth 4000 in
theorem wb_X10_init {g : GG} {n0 z0 : Nat} (N : Nat) {A : LH} {v0 : Option Nat} {p : LH} (ho : isO A v0 10 = true) (h : b_X10_init N A v0 = some p) : V g m_X10_init 5 n0 z0 none p A 0 [some (LR v0)] [] := by
  unfold b_X10_init at h
  refine V.aload_n dX10_init_0 rfl rfl ?_
  refine V.objI ho ml_RX10_1 im_obj co_obj (by decide) (Nat.le_of_ble_eq_true rfl) dX10_init_1 ?_
  refine V.aload_n dX10_init_4 rfl rfl ?_
  refine V.new CF6 okT6 cl_RX10_7 in_6 ii_6 (fs := [LR none, LI 0]) rfl dX10_init_5 ?_
  refine V.dup dX10_init_8 rfl ?_
  obtain ⟨p1, h2, h⟩ := bnd h
  have w3 := w_X6_init (g := g) h2
  refine V.callI (args := []) (st := [LR (some (8 + hn A)), LR v0]) w3.1 (oo_X6_init h2) mk_X6_init rfl ml_RX10_9 im_X6_init rfl rfl (Nat.le_of_ble_eq_true rfl) (by decide) rfl (Nat.le_of_ble_eq_true rfl) dX10_init_9 ?_
  obtain ⟨A4, h5, h⟩ := bnd h
  refine V.putFF h5 (nrR _ rfl) (ftR _ rfl) rfl rfl rfl CF10 (Nat.le_of_ble_eq_true rfl) fl_RX10_10 dX10_init_12 ?_
  refine V.aload_n dX10_init_15 rfl rfl ?_
  refine V.new CF2 okT2 cl_RX10_16 in_2 ii_2 (fs := [LR none, LR none, LR none, LI 0, LI 0, LI 0, LI 0]) rfl dX10_init_16 ?_
  refine V.dup dX10_init_19 rfl ?_
  refine V.aload_n dX10_init_20 rfl rfl ?_
  obtain ⟨x6, h7, h⟩ := bnd h
  refine V.getF (gR_F h7) CF10 (Nat.le_of_ble_eq_true rfl) fl_RX10_10 dX10_init_21 ?_
  obtain ⟨p8, h9, h⟩ := bnd h
  have w10 := w_X2_init (g := g) h9
  refine V.callI (args := [LR x6]) (st := [LR (some (8 + hn A4)), LR v0]) w10.1 (oo_X2_init h9) mk_X2_init rfl ml_RX10_18 im_X2_init rfl rfl (Nat.le_of_ble_eq_true rfl) (by decide) rfl (Nat.le_of_ble_eq_true rfl) dX10_init_24 ?_
  obtain ⟨A11, h12, h⟩ := bnd h
  refine V.putFF h12 (nrR _ rfl) (ftR _ rfl) rfl rfl rfl CF10 (Nat.le_of_ble_eq_true rfl) fl_RX10_21 dX10_init_27 ?_
  refine V.aload_n dX10_init_30 rfl rfl ?_
  refine V.new CF8 okT8 cl_RX10_25 in_8 ii_8 (fs := [LR none, LR none, LR none, LR none]) rfl dX10_init_31 ?_
  refine V.dup dX10_init_34 rfl ?_
  obtain ⟨p13, h14, h⟩ := bnd h
  have w15 := w_X8_init (g := g) N h14
  refine V.callI (args := []) (st := [LR (some (8 + hn A11)), LR v0]) w15.1 (oo_X8_init h14) mk_X8_init rfl ml_RX10_27 im_X8_init rfl rfl (Nat.le_of_ble_eq_true rfl) (by decide) rfl (Nat.le_of_ble_eq_true rfl) dX10_init_35 ?_
  obtain ⟨A16, h17, h⟩ := bnd h
  refine V.putFF h17 (nrR _ rfl) (ftR _ rfl) rfl rfl rfl CF10 (Nat.le_of_ble_eq_true rfl) fl_RX10_28 dX10_init_38 ?_
  refine V.aload_n dX10_init_41 rfl rfl ?_
  refine V.iconst dX10_init_42 ki_3 ?_
  obtain ⟨A18, h19, h⟩ := bnd h
  refine V.newq h19 rfl cl_RX10_25 ov_5 dX10_init_43 ?_
  obtain ⟨A20, h21, h⟩ := bnd h
  refine V.putFF h21 (nrR _ rfl) (ftR _ rfl) rfl rfl rfl CF10 (Nat.le_of_ble_eq_true rfl) fl_RX10_32 dX10_init_46 ?_
  refine V.aload_n dX10_init_49 rfl rfl ?_
  refine V.new CF9 okT9 cl_RX10_36 in_9 ii_9 (fs := [LR none, LI 0, LI 0, LI 0, LI 0, LI 0, LI 0, LI 0, LI 0, LI 0, LI 0, LI 0]) rfl dX10_init_50 ?_
  refine V.dup dX10_init_53 rfl ?_
  obtain ⟨p22, h23, h⟩ := bnd h
  have w24 := w_X9_init (g := g) h23
  refine V.callI (args := []) (st := [LR (some (8 + hn A20)), LR v0]) w24.1 (oo_X9_init h23) mk_X9_init rfl ml_RX10_38 im_X9_init rfl rfl (Nat.le_of_ble_eq_true rfl) (by decide) rfl (Nat.le_of_ble_eq_true rfl) dX10_init_54 ?_
  obtain ⟨A25, h26, h⟩ := bnd h
  refine V.putFF h26 (nrR _ rfl) (ftR _ rfl) rfl rfl rfl CF10 (Nat.le_of_ble_eq_true rfl) fl_RX10_39 dX10_init_57 ?_
  refine V.aload_n dX10_init_60 rfl rfl ?_
  refine V.new CF4 okT4 cl_RX10_43 in_4 ii_4 (fs := [LR none, LR none, LI 0, LI 0, LI 0, LI 0, LI 0, LI 0]) rfl dX10_init_61 ?_
  refine V.dup dX10_init_64 rfl ?_
  obtain ⟨p27, h28, h⟩ := bnd h
  have w29 := w_X4_init (g := g) h28
  refine V.callI (args := []) (st := [LR (some (8 + hn A25)), LR v0]) w29.1 (oo_X4_init h28) mk_X4_init rfl ml_RX10_45 im_X4_init rfl rfl (Nat.le_of_ble_eq_true rfl) (by decide) rfl (Nat.le_of_ble_eq_true rfl) dX10_init_65 ?_
  obtain ⟨A30, h31, h⟩ := bnd h
  refine V.putFF h31 (nrR _ rfl) (ftR _ rfl) rfl rfl rfl CF10 (Nat.le_of_ble_eq_true rfl) fl_RX10_46 dX10_init_68 ?_
  refine V.aload_n dX10_init_71 rfl rfl ?_
  refine V.null dX10_init_72 ?_
  obtain ⟨A32, h33, h⟩ := bnd h
  refine V.putF h33 (nrR _ rfl) (ftR _ rfl) rfl CF10 (Nat.le_of_ble_eq_true rfl) fl_RX10_50 dX10_init_73 ?_
  refine V.aload_n dX10_init_76 rfl rfl ?_
  refine V.iconst dX10_init_77 ki_0 ?_
  obtain ⟨A34, h35, h⟩ := bnd h
  refine V.putF h35 rfl rfl rfl CF10 (Nat.le_of_ble_eq_true rfl) fl_RX10_54 dX10_init_78 ?_
  refine V.aload_n dX10_init_81 rfl rfl ?_
  refine V.iconst dX10_init_82 ki_m1 ?_
  obtain ⟨A36, h37, h⟩ := bnd h
  refine V.putF h37 rfl rfl rfl CF10 (Nat.le_of_ble_eq_true rfl) fl_RX10_58 dX10_init_83 ?_
  obtain rfl := Option.some.inj h
  exact V.return_ dX10_init_86
def f_X10_init (N : Nat) (A : LH) (v0 : Option Nat) : Option (LH) := if isO A v0 10 = true then b_X10_init N A v0 else none
theorem w_X10_init {g : GG} (N : Nat) {A : LH} {v0 : Option Nat} {p : LH} (h : f_X10_init N A v0 = some p) : Ct g m_X10_init 5 [LR v0] A none p := by
  unfold f_X10_init at h
  obtain ⟨ho, h⟩ := ifN h
  exact ⟨wb_X10_init N ho h, trivial⟩
theorem oo_X10_init {N : Nat} {A : LH} {v0 : Option Nat} {p : LH} (h : f_X10_init N A v0 = some p) : isO A v0 10 = true := by unfold f_X10_init at h; exact (ifN h).1
def b_X10_feed (N : Nat) (A : LH) (v0 : Option Nat) (v1 : Int32) (v2 : Int32) (v3 : Int32) (v4 : Int32) (v5 : Int32) : Option (Int32 × LH) :=
  (gR A v0 10 0).bind fun x1 => (gI A x1 6 1).bind fun x3 => if x3 ≤ (580 : Int32) then (gR A v0 10 0).bind fun x6 => (f_X6_put N A x6 v1).bind fun p8 => (gR p8 v0 10 0).bind fun x11 => (f_X6_put N p8 x11 v2).bind fun p13 => (gR p13 v0 10 0).bind fun x16 => (f_X6_put N p13 x16 v3).bind fun p18 => (gR p18 v0 10 0).bind fun x21 => (f_X6_put N p18 x21 v4).bind fun p23 => (gR p23 v0 10 0).bind fun x26 => (f_X6_put N p23 x26 v5).bind fun p28 => (gR p28 v0 10 0).bind fun x31 => (gI p28 x31 6 1).bind fun x33 => some (x33, p28) else some ((-1 : Int32), A)
set_option maxRecDepth 4000 in
theorem wb_X10_feed {g : GG} {n0 z0 : Nat} (N : Nat) {A : LH} {v0 : Option Nat} {v1 : Int32} {v2 : Int32} {v3 : Int32} {v4 : Int32} {v5 : Int32} {p : Int32 × LH} (h : b_X10_feed N A v0 v1 v2 v3 v4 v5 = some p) : V g m_X10_feed 1 n0 z0 (some (LI p.1)) p.2 A 0 [some (LR v0), some (LI v1), some (LI v2), some (LI v3), some (LI v4), some (LI v5)] [] := by
  unfold b_X10_feed at h
  refine V.aload_n dX10_feed_0 rfl rfl ?_
  obtain ⟨x1, h2, h⟩ := bnd h
  refine V.getF (gR_F h2) CF10 (Nat.le_of_ble_eq_true rfl) fl_RX10_10 dX10_feed_1 ?_
  obtain ⟨x3, h4, h⟩ := bnd h
  refine V.getFN (gI_F h4) CF6 (Nat.le_of_ble_eq_true rfl) fl_RX10_61 dX10_feed_4 ?_
  refine V.sipush dX10_feed_7 ks_580 ?_
  refine V.icmp_le (tgt := 15) dX10_feed_10 (by decide) (fun c5 => ?_) (fun c5 => ?_)
  · have h := (if_pos c5).symm.trans h
    refine V.aload_n dX10_feed_15 rfl rfl ?_
    obtain ⟨x6, h7, h⟩ := bnd h
    refine V.getF (gR_F h7) CF10 (Nat.le_of_ble_eq_true rfl) fl_RX10_10 dX10_feed_16 ?_
    refine V.iload_n dX10_feed_19 rfl rfl ?_
    obtain ⟨p8, h9, h⟩ := bnd h
    have w10 := w_X6_put (g := g) N h9
    refine V.callVv (args := [LI v1]) (st := []) w10.1 (oo_X6_put h9) mk_X6_put w10.2 vc_6 ml_RX10_64 im_X6_put se_X6_put rfl (Nat.le_of_ble_eq_true rfl) (by decide) rfl (Nat.le_of_ble_eq_true rfl) dX10_feed_20 ?_
    refine V.aload_n dX10_feed_23 rfl rfl ?_
    obtain ⟨x11, h12, h⟩ := bnd h
    refine V.getF (gR_F h12) CF10 (Nat.le_of_ble_eq_true rfl) fl_RX10_10 dX10_feed_24 ?_
    refine V.iload_n dX10_feed_27 rfl rfl ?_
    obtain ⟨p13, h14, h⟩ := bnd h
    have w15 := w_X6_put (g := g) N h14
    refine V.callVv (args := [LI v2]) (st := []) w15.1 (oo_X6_put h14) mk_X6_put w15.2 vc_6 ml_RX10_64 im_X6_put se_X6_put rfl (Nat.le_of_ble_eq_true rfl) (by decide) rfl (Nat.le_of_ble_eq_true rfl) dX10_feed_28 ?_
    refine V.aload_n dX10_feed_31 rfl rfl ?_
    obtain ⟨x16, h17, h⟩ := bnd h
    refine V.getF (gR_F h17) CF10 (Nat.le_of_ble_eq_true rfl) fl_RX10_10 dX10_feed_32 ?_
    refine V.iload_n dX10_feed_35 rfl rfl ?_
    obtain ⟨p18, h19, h⟩ := bnd h
    have w20 := w_X6_put (g := g) N h19
    refine V.callVv (args := [LI v3]) (st := []) w20.1 (oo_X6_put h19) mk_X6_put w20.2 vc_6 ml_RX10_64 im_X6_put se_X6_put rfl (Nat.le_of_ble_eq_true rfl) (by decide) rfl (Nat.le_of_ble_eq_true rfl) dX10_feed_36 ?_
    refine V.aload_n dX10_feed_39 rfl rfl ?_
    obtain ⟨x21, h22, h⟩ := bnd h
    refine V.getF (gR_F h22) CF10 (Nat.le_of_ble_eq_true rfl) fl_RX10_10 dX10_feed_40 ?_
    refine V.iload dX10_feed_43 rfl ?_
    obtain ⟨p23, h24, h⟩ := bnd h
    have w25 := w_X6_put (g := g) N h24
    refine V.callVv (args := [LI v4]) (st := []) w25.1 (oo_X6_put h24) mk_X6_put w25.2 vc_6 ml_RX10_64 im_X6_put se_X6_put rfl (Nat.le_of_ble_eq_true rfl) (by decide) rfl (Nat.le_of_ble_eq_true rfl) dX10_feed_45 ?_
    refine V.aload_n dX10_feed_48 rfl rfl ?_
    obtain ⟨x26, h27, h⟩ := bnd h
    refine V.getF (gR_F h27) CF10 (Nat.le_of_ble_eq_true rfl) fl_RX10_10 dX10_feed_49 ?_
    refine V.iload dX10_feed_52 rfl ?_
    obtain ⟨p28, h29, h⟩ := bnd h
    have w30 := w_X6_put (g := g) N h29
    refine V.callVv (args := [LI v5]) (st := []) w30.1 (oo_X6_put h29) mk_X6_put w30.2 vc_6 ml_RX10_64 im_X6_put se_X6_put rfl (Nat.le_of_ble_eq_true rfl) (by decide) rfl (Nat.le_of_ble_eq_true rfl) dX10_feed_54 ?_
    refine V.aload_n dX10_feed_57 rfl rfl ?_
    obtain ⟨x31, h32, h⟩ := bnd h
    refine V.getF (gR_F h32) CF10 (Nat.le_of_ble_eq_true rfl) fl_RX10_10 dX10_feed_58 ?_
    obtain ⟨x33, h34, h⟩ := bnd h
    refine V.getFN (gI_F h34) CF6 (Nat.le_of_ble_eq_true rfl) fl_RX10_61 dX10_feed_61 ?_
    obtain rfl := Option.some.inj h
    exact V.ireturn dX10_feed_64
  · have h := (if_neg c5).symm.trans h
    refine V.iconst dX10_feed_13 ki_m1 ?_
    obtain rfl := Option.some.inj h
    exact V.ireturn dX10_feed_14
def f_X10_feed (N : Nat) (A : LH) (v0 : Option Nat) (v1 : Int32) (v2 : Int32) (v3 : Int32) (v4 : Int32) (v5 : Int32) : Option (Int32 × LH) := if isO A v0 10 = true then b_X10_feed N A v0 v1 v2 v3 v4 v5 else none
theorem w_X10_feed {g : GG} (N : Nat) {A : LH} {v0 : Option Nat} {v1 : Int32} {v2 : Int32} {v3 : Int32} {v4 : Int32} {v5 : Int32} {p : Int32 × LH} (h : f_X10_feed N A v0 v1 v2 v3 v4 v5 = some p) : Ct g m_X10_feed 1 [LR v0, LI v1, LI v2, LI v3, LI v4, LI v5] A (some (LI p.1)) p.2 := by
  unfold f_X10_feed at h
  obtain ⟨ho, h⟩ := ifN h
  exact ⟨wb_X10_feed N h, rfl⟩
theorem oo_X10_feed {N : Nat} {A : LH} {v0 : Option Nat} {v1 : Int32} {v2 : Int32} {v3 : Int32} {v4 : Int32} {v5 : Int32} {p : Int32 × LH} (h : f_X10_feed N A v0 v1 v2 v3 v4 v5 = some p) : isO A v0 10 = true := by unfold f_X10_feed at h; exact (ifN h).1
def b_X10_end (A : LH) (v0 : Option Nat) (v1 : Int32) : Option (Int32 × LH) :=
  if v1 < 0 then some ((-1 : Int32), A) else (gR A v0 10 0).bind fun x2 => (gI A x2 6 1).bind fun x4 => if v1 ≤ x4 then (gR A v0 10 0).bind fun x7 => (pF A x7 6 1 (LI v1)).bind fun A9 => some (v1, A9) else some ((-1 : Int32), A)
set_option maxRecDepth 4000 in
theorem wb_X10_end {g : GG} {n0 z0 : Nat} {A : LH} {v0 : Option Nat} {v1 : Int32} {p : Int32 × LH} (h : b_X10_end A v0 v1 = some p) : V g m_X10_end 0 n0 z0 (some (LI p.1)) p.2 A 0 [some (LR v0), some (LI v1)] [] := by
  unfold b_X10_end at h
  refine V.iload_n dX10_end_0 rfl rfl ?_
  refine V.if_lt (tgt := 15) dX10_end_1 (by decide) (fun c1 => ?_) (fun c1 => ?_)
  · have h := (if_pos c1).symm.trans h
    refine V.iconst dX10_end_15 ki_m1 ?_
    obtain rfl := Option.some.inj h
    exact V.ireturn dX10_end_16
  · have h := (if_neg c1).symm.trans h
    refine V.iload_n dX10_end_4 rfl rfl ?_
    refine V.aload_n dX10_end_5 rfl rfl ?_
    obtain ⟨x2, h3, h⟩ := bnd h
    refine V.getF (gR_F h3) CF10 (Nat.le_of_ble_eq_true rfl) fl_RX10_10 dX10_end_6 ?_
    obtain ⟨x4, h5, h⟩ := bnd h
    refine V.getFN (gI_F h5) CF6 (Nat.le_of_ble_eq_true rfl) fl_RX10_61 dX10_end_9 ?_
    refine V.icmp_le (tgt := 17) dX10_end_12 (by decide) (fun c6 => ?_) (fun c6 => ?_)
    · have h := (if_pos c6).symm.trans h
      refine V.aload_n dX10_end_17 rfl rfl ?_
      obtain ⟨x7, h8, h⟩ := bnd h
      refine V.getF (gR_F h8) CF10 (Nat.le_of_ble_eq_true rfl) fl_RX10_10 dX10_end_18 ?_
      refine V.iload_n dX10_end_21 rfl rfl ?_
      obtain ⟨A9, h10, h⟩ := bnd h
      refine V.putFN h10 rfl rfl rfl CF6 (Nat.le_of_ble_eq_true rfl) fl_RX10_61 dX10_end_22 ?_
      refine V.iload_n dX10_end_25 rfl rfl ?_
      obtain rfl := Option.some.inj h
      exact V.ireturn dX10_end_26
    · have h := (if_neg c6).symm.trans h
      refine V.iconst dX10_end_15 ki_m1 ?_
      obtain rfl := Option.some.inj h
      exact V.ireturn dX10_end_16
def f_X10_end (A : LH) (v0 : Option Nat) (v1 : Int32) : Option (Int32 × LH) := if isO A v0 10 = true then b_X10_end A v0 v1 else none
theorem w_X10_end {g : GG} {A : LH} {v0 : Option Nat} {v1 : Int32} {p : Int32 × LH} (h : f_X10_end A v0 v1 = some p) : Ct g m_X10_end 0 [LR v0, LI v1] A (some (LI p.1)) p.2 := by
  unfold f_X10_end at h
  obtain ⟨ho, h⟩ := ifN h
  exact ⟨wb_X10_end h, rfl⟩
theorem oo_X10_end {A : LH} {v0 : Option Nat} {v1 : Int32} {p : Int32 × LH} (h : f_X10_end A v0 v1 = some p) : isO A v0 10 = true := by unfold f_X10_end at h; exact (ifN h).1
def b_X10_putRules (A : LH) (v0 : Option Nat) (v1 : Int32) (v2 : Option Nat) : Option (LH) :=
  (f_X10_isIn v1 (4 : Int32)).bind fun p1 => if p1 = 0 then some A else (gR A v0 10 2).bind fun x5 => (gR A x5 8 3).bind fun x7 => (sR A x7 4 3 v1 v2).bind fun A9 => (gR A9 v0 10 6).bind fun x11 => if x11 = none then some A9 else (gR A9 v0 10 6).bind fun x14 => (gI A9 x14 1 0).bind fun x16 => if x16 = v1 then (gR A9 v0 10 6).bind fun x19 => (pZ A9 x19 1 3 (0 : Int32)).bind fun A21 => some A21 else some A9
set_option maxRecDepth 4000 in
theorem wb_X10_putRules {g : GG} {n0 z0 : Nat} {A : LH} {v0 : Option Nat} {v1 : Int32} {v2 : Option Nat} {p : LH} (h : b_X10_putRules A v0 v1 v2 = some p) : V g m_X10_putRules 1 n0 z0 none p A 0 [some (LR v0), some (LI v1), some (LR v2)] [] := by
  unfold b_X10_putRules at h
  refine V.iload_n dX10_putRules_0 rfl rfl ?_
  refine V.iconst dX10_putRules_1 ki_4 ?_
  obtain ⟨p1, h2, h⟩ := bnd h
  have w3 := w_X10_isIn (g := g) (A := A) h2
  refine V.callSi (args := [LI v1, LI (4 : Int32)]) (st := []) w3.1 mk_X10_isIn w3.2 ml_RX10_68 sm_X10_isIn rfl (Nat.le_of_ble_eq_true rfl) (by decide) rfl (Nat.le_of_ble_eq_true rfl) dX10_putRules_2 ?_
  refine V.if_ne (tgt := 9) dX10_putRules_5 (by decide) (fun c4 => ?_) (fun c4 => ?_)
  · have h := (if_neg c4).symm.trans h
    refine V.aload_n dX10_putRules_9 rfl rfl ?_
    obtain ⟨x5, h6, h⟩ := bnd h
    refine V.getF (gR_F h6) CF10 (Nat.le_of_ble_eq_true rfl) fl_RX10_28 dX10_putRules_10 ?_
    obtain ⟨x7, h8, h⟩ := bnd h
    refine V.getFN (gR_F h8) CF8 (Nat.le_of_ble_eq_true rfl) fl_RX10_238 dX10_putRules_13 ?_
    refine V.iload_n dX10_putRules_16 rfl rfl ?_
    refine V.aload_n dX10_putRules_17 rfl rfl ?_
    obtain ⟨A9, h10, h⟩ := bnd h
    refine V.aast h10 rfl rfl dX10_putRules_18 ?_
    refine V.aload_n dX10_putRules_19 rfl rfl ?_
    obtain ⟨x11, h12, h⟩ := bnd h
    refine V.getF (gR_F h12) CF10 (Nat.le_of_ble_eq_true rfl) fl_RX10_50 dX10_putRules_20 ?_
    refine V.ifnull_ (tgt := 45) dX10_putRules_23 (by decide) (fun c23 => ?_) (fun c23 => ?_)
    · have h := (if_pos c23).symm.trans h
      obtain rfl := Option.some.inj h
      exact V.return_ dX10_putRules_45
    · have h := (if_neg c23).symm.trans h
      refine V.aload_n dX10_putRules_26 rfl rfl ?_
      obtain ⟨x14, h15, h⟩ := bnd h
      refine V.getF (gR_F h15) CF10 (Nat.le_of_ble_eq_true rfl) fl_RX10_50 dX10_putRules_27 ?_
      obtain ⟨x16, h17, h⟩ := bnd h
      refine V.getFN (gI_F h17) CF1 (Nat.le_of_ble_eq_true rfl) fl_RX10_211 dX10_putRules_30 ?_
      refine V.iload_n dX10_putRules_33 rfl rfl ?_
      refine V.icmp_ne (tgt := 45) dX10_putRules_34 (by decide) (fun c18 => ?_) (fun c18 => ?_)
      · have h := (if_neg c18).symm.trans h
        obtain rfl := Option.some.inj h
        exact V.return_ dX10_putRules_45
      · have h := (if_pos c18).symm.trans h
        refine V.aload_n dX10_putRules_37 rfl rfl ?_
        obtain ⟨x19, h20, h⟩ := bnd h
        refine V.getF (gR_F h20) CF10 (Nat.le_of_ble_eq_true rfl) fl_RX10_50 dX10_putRules_38 ?_
        refine V.iconst dX10_putRules_41 ki_0 ?_
        obtain ⟨A21, h22, h⟩ := bnd h
        refine V.putFN (pZ_F h22).1 (pZ_n (pZ_F h22).2) (pZ_f (pZ_F h22).2) rfl CF1 (Nat.le_of_ble_eq_true rfl) fl_RX10_207 dX10_putRules_42 ?_
        obtain rfl := Option.some.inj h
        exact V.return_ dX10_putRules_45
  · have h := (if_pos c4).symm.trans h
    obtain rfl := Option.some.inj h
    exact V.return_ dX10_putRules_8
def f_X10_putRules (A : LH) (v0 : Option Nat) (v1 : Int32) (v2 : Option Nat) : Option (LH) := if isO A v0 10 = true then b_X10_putRules A v0 v1 v2 else none
theorem w_X10_putRules {g : GG} {A : LH} {v0 : Option Nat} {v1 : Int32} {v2 : Option Nat} {p : LH} (h : f_X10_putRules A v0 v1 v2 = some p) : Ct g m_X10_putRules 1 [LR v0, LI v1, LR v2] A none p := by
  unfold f_X10_putRules at h
  obtain ⟨ho, h⟩ := ifN h
  exact ⟨wb_X10_putRules h, trivial⟩
theorem oo_X10_putRules {A : LH} {v0 : Option Nat} {v1 : Int32} {v2 : Option Nat} {p : LH} (h : f_X10_putRules A v0 v1 v2 = some p) : isO A v0 10 = true := by unfold f_X10_putRules at h; exact (ifN h).1
def b_X10_rules (N : Nat) (A : LH) (v0 : Option Nat) (v1 : Int32) : Option (Int32 × LH) :=
  (f_X10_isIn v1 (4 : Int32)).bind fun p1 => if p1 = 0 then some ((-2 : Int32), A) else (gR A v0 10 1).bind fun x5 => (f_X2_read N A x5).bind fun p7 => (gR p7.2 v0 10 0).bind fun x10 => (pF p7.2 x10 6 1 (LI (0 : Int32))).bind fun A12 => (gR A12 v0 10 1).bind fun x14 => (gI A12 x14 2 5).bind fun x16 => (pF A12 v0 10 7 (LI x16)).bind fun A18 => (gR A18 v0 10 1).bind fun x20 => (gI A18 x20 2 6).bind fun x22 => (pF A18 v0 10 8 (LI x22)).bind fun A24 => if p7.1 = none then some ((-1 : Int32), A24) else (f_X10_putRules A24 v0 v1 p7.1).bind fun p27 => (gR p27 p7.1 3 1).bind fun x30 => (ln6 p27 x30).bind fun x32 => some (x32, p27)
set_option maxRecDepth 4000 in
theorem wb_X10_rules {g : GG} {n0 z0 : Nat} (N : Nat) {A : LH} {v0 : Option Nat} {v1 : Int32} {p : Int32 × LH} (h : b_X10_rules N A v0 v1 = some p) : V g m_X10_rules 35 n0 z0 (some (LI p.1)) p.2 A 0 [some (LR v0), some (LI v1)] [] := by
  unfold b_X10_rules at h
  refine V.iload_n dX10_rules_0 rfl rfl ?_
  refine V.iconst dX10_rules_1 ki_4 ?_
  obtain ⟨p1, h2, h⟩ := bnd h
  have w3 := w_X10_isIn (g := g) (A := A) h2
  refine V.callSi (args := [LI v1, LI (4 : Int32)]) (st := []) w3.1 mk_X10_isIn w3.2 ml_RX10_68 sm_X10_isIn rfl (Nat.le_of_ble_eq_true rfl) (by decide) rfl (Nat.le_of_ble_eq_true rfl) dX10_rules_2 ?_
  refine V.if_ne (tgt := 11) dX10_rules_5 (by decide) (fun c4 => ?_) (fun c4 => ?_)
  · have h := (if_neg c4).symm.trans h
    refine V.aload_n dX10_rules_11 rfl rfl ?_
    obtain ⟨x5, h6, h⟩ := bnd h
    refine V.getF (gR_F h6) CF10 (Nat.le_of_ble_eq_true rfl) fl_RX10_21 dX10_rules_12 ?_
    obtain ⟨p7, h8, h⟩ := bnd h
    have w9 := w_X2_read (g := g) N h8
    refine V.callVr (args := []) (st := []) w9.1 (oo_X2_read h8) mk_X2_read w9.2 vc_2 ml_RX10_72 im_X2_read se_X2_read rfl (Nat.le_of_ble_eq_true rfl) (by decide) rfl (Nat.le_of_ble_eq_true rfl) dX10_rules_15 ?_
    refine V.astore_n (ls' := [some (LR v0), some (LI v1), some (LR p7.1)]) dX10_rules_18 rfl (by decide) rfl rfl ?_
    refine V.aload_n dX10_rules_19 rfl rfl ?_
    obtain ⟨x10, h11, h⟩ := bnd h
    refine V.getF (gR_F h11) CF10 (Nat.le_of_ble_eq_true rfl) fl_RX10_10 dX10_rules_20 ?_
    refine V.iconst dX10_rules_23 ki_0 ?_
    obtain ⟨A12, h13, h⟩ := bnd h
    refine V.putFN h13 rfl rfl rfl CF6 (Nat.le_of_ble_eq_true rfl) fl_RX10_61 dX10_rules_24 ?_
    refine V.aload_n dX10_rules_27 rfl rfl ?_
    refine V.aload_n dX10_rules_28 rfl rfl ?_
    obtain ⟨x14, h15, h⟩ := bnd h
    refine V.getF (gR_F h15) CF10 (Nat.le_of_ble_eq_true rfl) fl_RX10_21 dX10_rules_29 ?_
    obtain ⟨x16, h17, h⟩ := bnd h
    refine V.getFN (gI_F h17) CF2 (Nat.le_of_ble_eq_true rfl) fl_RX10_76 dX10_rules_32 ?_
    obtain ⟨A18, h19, h⟩ := bnd h
    refine V.putF h19 rfl rfl rfl CF10 (Nat.le_of_ble_eq_true rfl) fl_RX10_54 dX10_rules_35 ?_
    refine V.aload_n dX10_rules_38 rfl rfl ?_
    refine V.aload_n dX10_rules_39 rfl rfl ?_
    obtain ⟨x20, h21, h⟩ := bnd h
    refine V.getF (gR_F h21) CF10 (Nat.le_of_ble_eq_true rfl) fl_RX10_21 dX10_rules_40 ?_
    obtain ⟨x22, h23, h⟩ := bnd h
    refine V.getFN (gI_F h23) CF2 (Nat.le_of_ble_eq_true rfl) fl_RX10_79 dX10_rules_43 ?_
    obtain ⟨A24, h25, h⟩ := bnd h
    refine V.putF h25 rfl rfl rfl CF10 (Nat.le_of_ble_eq_true rfl) fl_RX10_58 dX10_rules_46 ?_
    refine V.aload_n dX10_rules_49 rfl rfl ?_
    refine V.ifnonnull_ (tgt := 55) dX10_rules_50 (by decide) (fun c34 => ?_) (fun c34 => ?_)
    · have h := (if_neg c34).symm.trans h
      refine V.aload_n dX10_rules_55 rfl rfl ?_
      refine V.iload_n dX10_rules_56 rfl rfl ?_
      refine V.aload_n dX10_rules_57 rfl rfl ?_
      obtain ⟨p27, h28, h⟩ := bnd h
      have w29 := w_X10_putRules (g := g) h28
      refine V.callVv (args := [LI v1, LR p7.1]) (st := []) w29.1 (oo_X10_putRules h28) mk_X10_putRules w29.2 vc_10 ml_RX10_80 im_X10_putRules se_X10_putRules rfl (Nat.le_of_ble_eq_true rfl) (by decide) rfl (Nat.le_of_ble_eq_true rfl) dX10_rules_58 ?_
      refine V.aload_n dX10_rules_61 rfl rfl ?_
      obtain ⟨x30, h31, h⟩ := bnd h
      refine V.getFN (gR_F h31) CF3 (Nat.le_of_ble_eq_true rfl) fl_RX10_84 dX10_rules_62 ?_
      obtain ⟨x32, h33, h⟩ := bnd h
      refine V.alen (ln6_l h33) (ln6_t h33) dX10_rules_65 ?_
      obtain rfl := Option.some.inj h
      exact V.ireturn dX10_rules_66
    · have h := (if_pos c34).symm.trans h
      refine V.iconst dX10_rules_53 ki_m1 ?_
      obtain rfl := Option.some.inj h
      exact V.ireturn dX10_rules_54
  · have h := (if_pos c4).symm.trans h
    refine V.bipush dX10_rules_8 kb_m2 ?_
    obtain rfl := Option.some.inj h
    exact V.ireturn dX10_rules_10
def f_X10_rules (N : Nat) (A : LH) (v0 : Option Nat) (v1 : Int32) : Option (Int32 × LH) := if isO A v0 10 = true then b_X10_rules N A v0 v1 else none
theorem w_X10_rules {g : GG} (N : Nat) {A : LH} {v0 : Option Nat} {v1 : Int32} {p : Int32 × LH} (h : f_X10_rules N A v0 v1 = some p) : Ct g m_X10_rules 35 [LR v0, LI v1] A (some (LI p.1)) p.2 := by
  unfold f_X10_rules at h
  obtain ⟨ho, h⟩ := ifN h
  exact ⟨wb_X10_rules N h, rfl⟩
theorem oo_X10_rules {N : Nat} {A : LH} {v0 : Option Nat} {v1 : Int32} {p : Int32 × LH} (h : f_X10_rules N A v0 v1 = some p) : isO A v0 10 = true := by unfold f_X10_rules at h; exact (ifN h).1
def b_X10_fault (A : LH) (v0 : Option Nat) (v1 : Int32) : Option (Int32) :=
  if v1 = 0 then (gI A v0 10 7).bind fun x5 => some x5 else if v1 = (1 : Int32) then (gI A v0 10 8).bind fun x3 => some x3 else some (-1 : Int32)
set_option maxRecDepth 4000 in
theorem wb_X10_fault {g : GG} {n0 z0 : Nat} {A : LH} {v0 : Option Nat} {v1 : Int32} {p : Int32} (h : b_X10_fault A v0 v1 = some p) : V g m_X10_fault 0 n0 z0 (some (LI p)) A A 0 [some (LR v0), some (LI v1)] [] := by
  unfold b_X10_fault at h
  refine V.iload_n dX10_fault_0 rfl rfl ?_
  refine V.if_ne (tgt := 9) dX10_fault_1 (by decide) (fun c1 => ?_) (fun c1 => ?_)
  · have h := (if_neg c1).symm.trans h
    refine V.iload_n dX10_fault_9 rfl rfl ?_
    refine V.iconst dX10_fault_10 ki_1 ?_
    refine V.icmp_ne (tgt := 21) dX10_fault_11 (by decide) (fun c2 => ?_) (fun c2 => ?_)
    · have h := (if_neg c2).symm.trans h
      refine V.iconst dX10_fault_21 ki_m1 ?_
      obtain rfl := Option.some.inj h
      exact V.ireturn dX10_fault_22
    · have h := (if_pos c2).symm.trans h
      refine V.aload_n dX10_fault_14 rfl rfl ?_
      obtain ⟨x3, h4, h⟩ := bnd h
      refine V.getF (gI_F h4) CF10 (Nat.le_of_ble_eq_true rfl) fl_RX10_58 dX10_fault_15 ?_
      refine V.goto (tgt := 22) dX10_fault_18 (by decide) ?_
      obtain rfl := Option.some.inj h
      exact V.ireturn dX10_fault_22
  · have h := (if_pos c1).symm.trans h
    refine V.aload_n dX10_fault_4 rfl rfl ?_
    obtain ⟨x5, h6, h⟩ := bnd h
    refine V.getF (gI_F h6) CF10 (Nat.le_of_ble_eq_true rfl) fl_RX10_54 dX10_fault_5 ?_
    obtain rfl := Option.some.inj h
    exact V.ireturn dX10_fault_8
def f_X10_fault (A : LH) (v0 : Option Nat) (v1 : Int32) : Option (Int32) := if isO A v0 10 = true then b_X10_fault A v0 v1 else none
theorem w_X10_fault {g : GG} {A : LH} {v0 : Option Nat} {v1 : Int32} {p : Int32} (h : f_X10_fault A v0 v1 = some p) : Ct g m_X10_fault 0 [LR v0, LI v1] A (some (LI p)) A := by
  unfold f_X10_fault at h
  obtain ⟨ho, h⟩ := ifN h
  exact ⟨wb_X10_fault h, rfl⟩
theorem oo_X10_fault {A : LH} {v0 : Option Nat} {v1 : Int32} {p : Int32} (h : f_X10_fault A v0 v1 = some p) : isO A v0 10 = true := by unfold f_X10_fault at h; exact (ifN h).1
def b_X10_person (A : LH) (v0 : Option Nat) (v1 : Int32) (v2 : Int32) : Option (Int32 × LH) :=
  (f_X10_canBePerson v1 v2).bind fun p1 => if p1 = 0 then some ((-1 : Int32), A) else (gR A v0 10 2).bind fun x5 => (gR A x5 8 0).bind fun x7 => (f_X5_addRow A x7).bind fun p9 => (gR p9.2 v0 10 2).bind fun x12 => (gR p9.2 x12 8 0).bind fun x14 => (f_X5_set p9.2 x14 p9.1 (0 : Int32) v1).bind fun p16 => (gR p16 v0 10 2).bind fun x19 => (gR p16 x19 8 0).bind fun x21 => (f_X5_set p16 x21 p9.1 (1 : Int32) v2).bind fun p23 => some (p9.1, p23)
set_option maxRecDepth 4000 in
theorem wb_X10_person {g : GG} {n0 z0 : Nat} {A : LH} {v0 : Option Nat} {v1 : Int32} {v2 : Int32} {p : Int32 × LH} (h : b_X10_person A v0 v1 v2 = some p) : V g m_X10_person 3 n0 z0 (some (LI p.1)) p.2 A 0 [some (LR v0), some (LI v1), some (LI v2)] [] := by
  unfold b_X10_person at h
  refine V.iload_n dX10_person_0 rfl rfl ?_
  refine V.iload_n dX10_person_1 rfl rfl ?_
  obtain ⟨p1, h2, h⟩ := bnd h
  have w3 := w_X10_canBePerson (g := g) (A := A) h2
  refine V.callSi (args := [LI v1, LI v2]) (st := []) w3.1 mk_X10_canBePerson w3.2 ml_RX10_90 sm_X10_canBePerson rfl (Nat.le_of_ble_eq_true rfl) (by decide) rfl (Nat.le_of_ble_eq_true rfl) dX10_person_2 ?_
  refine V.if_ne (tgt := 10) dX10_person_5 (by decide) (fun c4 => ?_) (fun c4 => ?_)
  · have h := (if_neg c4).symm.trans h
    refine V.aload_n dX10_person_10 rfl rfl ?_
    obtain ⟨x5, h6, h⟩ := bnd h
    refine V.getF (gR_F h6) CF10 (Nat.le_of_ble_eq_true rfl) fl_RX10_28 dX10_person_11 ?_
    obtain ⟨x7, h8, h⟩ := bnd h
    refine V.getFN (gR_F h8) CF8 (Nat.le_of_ble_eq_true rfl) fl_RX10_93 dX10_person_14 ?_
    obtain ⟨p9, h10, h⟩ := bnd h
    have w11 := w_X5_addRow (g := g) h10
    refine V.callVi (args := []) (st := []) w11.1 (oo_X5_addRow h10) mk_X5_addRow w11.2 vc_5 ml_RX10_97 im_X5_addRow se_X5_addRow rfl (Nat.le_of_ble_eq_true rfl) (by decide) rfl (Nat.le_of_ble_eq_true rfl) dX10_person_17 ?_
    refine V.istore_n (ls' := [some (LR v0), some (LI v1), some (LI v2), some (LI p9.1)]) dX10_person_20 rfl (by decide) rfl rfl ?_
    refine V.aload_n dX10_person_21 rfl rfl ?_
    obtain ⟨x12, h13, h⟩ := bnd h
    refine V.getF (gR_F h13) CF10 (Nat.le_of_ble_eq_true rfl) fl_RX10_28 dX10_person_22 ?_
    obtain ⟨x14, h15, h⟩ := bnd h
    refine V.getFN (gR_F h15) CF8 (Nat.le_of_ble_eq_true rfl) fl_RX10_93 dX10_person_25 ?_
    refine V.iload_n dX10_person_28 rfl rfl ?_
    refine V.iconst dX10_person_29 ki_0 ?_
    refine V.iload_n dX10_person_30 rfl rfl ?_
    obtain ⟨p16, h17, h⟩ := bnd h
    have w18 := w_X5_set (g := g) h17
    refine V.callVv (args := [LI p9.1, LI (0 : Int32), LI v1]) (st := []) w18.1 (oo_X5_set h17) mk_X5_set w18.2 vc_5 ml_RX10_103 im_X5_set se_X5_set rfl (Nat.le_of_ble_eq_true rfl) (by decide) rfl (Nat.le_of_ble_eq_true rfl) dX10_person_31 ?_
    refine V.aload_n dX10_person_34 rfl rfl ?_
    obtain ⟨x19, h20, h⟩ := bnd h
    refine V.getF (gR_F h20) CF10 (Nat.le_of_ble_eq_true rfl) fl_RX10_28 dX10_person_35 ?_
    obtain ⟨x21, h22, h⟩ := bnd h
    refine V.getFN (gR_F h22) CF8 (Nat.le_of_ble_eq_true rfl) fl_RX10_93 dX10_person_38 ?_
    refine V.iload_n dX10_person_41 rfl rfl ?_
    refine V.iconst dX10_person_42 ki_1 ?_
    refine V.iload_n dX10_person_43 rfl rfl ?_
    obtain ⟨p23, h24, h⟩ := bnd h
    have w25 := w_X5_set (g := g) h24
    refine V.callVv (args := [LI p9.1, LI (1 : Int32), LI v2]) (st := []) w25.1 (oo_X5_set h24) mk_X5_set w25.2 vc_5 ml_RX10_103 im_X5_set se_X5_set rfl (Nat.le_of_ble_eq_true rfl) (by decide) rfl (Nat.le_of_ble_eq_true rfl) dX10_person_44 ?_
    refine V.iload_n dX10_person_47 rfl rfl ?_
    obtain rfl := Option.some.inj h
    exact V.ireturn dX10_person_48
  · have h := (if_pos c4).symm.trans h
    refine V.iconst dX10_person_8 ki_m1 ?_
    obtain rfl := Option.some.inj h
    exact V.ireturn dX10_person_9
def f_X10_person (A : LH) (v0 : Option Nat) (v1 : Int32) (v2 : Int32) : Option (Int32 × LH) := if isO A v0 10 = true then b_X10_person A v0 v1 v2 else none
theorem w_X10_person {g : GG} {A : LH} {v0 : Option Nat} {v1 : Int32} {v2 : Int32} {p : Int32 × LH} (h : f_X10_person A v0 v1 v2 = some p) : Ct g m_X10_person 3 [LR v0, LI v1, LI v2] A (some (LI p.1)) p.2 := by
  unfold f_X10_person at h
  obtain ⟨ho, h⟩ := ifN h
  exact ⟨wb_X10_person h, rfl⟩
theorem oo_X10_person {A : LH} {v0 : Option Nat} {v1 : Int32} {v2 : Int32} {p : Int32 × LH} (h : f_X10_person A v0 v1 v2 = some p) : isO A v0 10 = true := by unfold f_X10_person at h; exact (ifN h).1
def b_X10_thing (A : LH) (v0 : Option Nat) (v1 : Int32) (v2 : Int32) (v3 : Int32) : Option (Int32 × LH) :=
  (f_X10_isUpTo v1 (7 : Int32)).bind fun p1 => if p1 = 0 then some ((-1 : Int32), A) else (f_X10_isUpTo v2 (5 : Int32)).bind fun p5 => if p5 = 0 then some ((-1 : Int32), A) else (gR A v0 10 2).bind fun x9 => (gR A x9 8 0).bind fun x11 => (f_X5_has A x11 v3).bind fun p13 => if p13 = 0 then some ((-1 : Int32), A) else (gR A v0 10 2).bind fun x17 => (gR A x17 8 1).bind fun x19 => (f_X5_addRow A x19).bind fun p21 => (gR p21.2 v0 10 2).bind fun x24 => (gR p21.2 x24 8 1).bind fun x26 => (f_X5_set p21.2 x26 p21.1 (0 : Int32) v1).bind fun p28 => (gR p28 v0 10 2).bind fun x31 => (gR p28 x31 8 1).bind fun x33 => (f_X5_set p28 x33 p21.1 (1 : Int32) v2).bind fun p35 => (gR p35 v0 10 2).bind fun x38 => (gR p35 x38 8 1).bind fun x40 => (f_X5_set p35 x40 p21.1 (2 : Int32) v3).bind fun p42 => some (p21.1, p42)
set_option maxRecDepth 4000 in
theorem wb_X10_thing {g : GG} {n0 z0 : Nat} {A : LH} {v0 : Option Nat} {v1 : Int32} {v2 : Int32} {v3 : Int32} {p : Int32 × LH} (h : b_X10_thing A v0 v1 v2 v3 = some p) : V g m_X10_thing 3 n0 z0 (some (LI p.1)) p.2 A 0 [some (LR v0), some (LI v1), some (LI v2), some (LI v3)] [] := by
  unfold b_X10_thing at h
  refine V.iload_n dX10_thing_0 rfl rfl ?_
  refine V.bipush dX10_thing_1 kb_7 ?_
  obtain ⟨p1, h2, h⟩ := bnd h
  have w3 := w_X10_isUpTo (g := g) (A := A) h2
  refine V.callSi (args := [LI v1, LI (7 : Int32)]) (st := []) w3.1 mk_X10_isUpTo w3.2 ml_RX10_107 sm_X10_isUpTo rfl (Nat.le_of_ble_eq_true rfl) (by decide) rfl (Nat.le_of_ble_eq_true rfl) dX10_thing_3 ?_
  refine V.if_eq (tgt := 31) dX10_thing_6 (by decide) (fun c4 => ?_) (fun c4 => ?_)
  · have h := (if_pos c4).symm.trans h
    refine V.iconst dX10_thing_31 ki_m1 ?_
    obtain rfl := Option.some.inj h
    exact V.ireturn dX10_thing_32
  · have h := (if_neg c4).symm.trans h
    refine V.iload_n dX10_thing_9 rfl rfl ?_
    refine V.iconst dX10_thing_10 ki_5 ?_
    obtain ⟨p5, h6, h⟩ := bnd h
    have w7 := w_X10_isUpTo (g := g) (A := A) h6
    refine V.callSi (args := [LI v2, LI (5 : Int32)]) (st := []) w7.1 mk_X10_isUpTo w7.2 ml_RX10_107 sm_X10_isUpTo rfl (Nat.le_of_ble_eq_true rfl) (by decide) rfl (Nat.le_of_ble_eq_true rfl) dX10_thing_11 ?_
    refine V.if_eq (tgt := 31) dX10_thing_14 (by decide) (fun c8 => ?_) (fun c8 => ?_)
    · have h := (if_pos c8).symm.trans h
      refine V.iconst dX10_thing_31 ki_m1 ?_
      obtain rfl := Option.some.inj h
      exact V.ireturn dX10_thing_32
    · have h := (if_neg c8).symm.trans h
      refine V.aload_n dX10_thing_17 rfl rfl ?_
      obtain ⟨x9, h10, h⟩ := bnd h
      refine V.getF (gR_F h10) CF10 (Nat.le_of_ble_eq_true rfl) fl_RX10_28 dX10_thing_18 ?_
      obtain ⟨x11, h12, h⟩ := bnd h
      refine V.getFN (gR_F h12) CF8 (Nat.le_of_ble_eq_true rfl) fl_RX10_93 dX10_thing_21 ?_
      refine V.iload_n dX10_thing_24 rfl rfl ?_
      obtain ⟨p13, h14, h⟩ := bnd h
      have w15 := w_X5_has (g := g) h14
      refine V.callVi (args := [LI v3]) (st := []) w15.1 (oo_X5_has h14) mk_X5_has w15.2 vc_5 ml_RX10_110 im_X5_has se_X5_has rfl (Nat.le_of_ble_eq_true rfl) (by decide) rfl (Nat.le_of_ble_eq_true rfl) dX10_thing_25 ?_
      refine V.if_ne (tgt := 33) dX10_thing_28 (by decide) (fun c16 => ?_) (fun c16 => ?_)
      · have h := (if_neg c16).symm.trans h
        refine V.aload_n dX10_thing_33 rfl rfl ?_
        obtain ⟨x17, h18, h⟩ := bnd h
        refine V.getF (gR_F h18) CF10 (Nat.le_of_ble_eq_true rfl) fl_RX10_28 dX10_thing_34 ?_
        obtain ⟨x19, h20, h⟩ := bnd h
        refine V.getFN (gR_F h20) CF8 (Nat.le_of_ble_eq_true rfl) fl_RX10_114 dX10_thing_37 ?_
        obtain ⟨p21, h22, h⟩ := bnd h
        have w23 := w_X5_addRow (g := g) h22
        refine V.callVi (args := []) (st := []) w23.1 (oo_X5_addRow h22) mk_X5_addRow w23.2 vc_5 ml_RX10_97 im_X5_addRow se_X5_addRow rfl (Nat.le_of_ble_eq_true rfl) (by decide) rfl (Nat.le_of_ble_eq_true rfl) dX10_thing_40 ?_
        refine V.istore (ls' := [some (LR v0), some (LI v1), some (LI v2), some (LI v3), some (LI p21.1)]) dX10_thing_43 (by decide) rfl rfl ?_
        refine V.aload_n dX10_thing_45 rfl rfl ?_
        obtain ⟨x24, h25, h⟩ := bnd h
        refine V.getF (gR_F h25) CF10 (Nat.le_of_ble_eq_true rfl) fl_RX10_28 dX10_thing_46 ?_
        obtain ⟨x26, h27, h⟩ := bnd h
        refine V.getFN (gR_F h27) CF8 (Nat.le_of_ble_eq_true rfl) fl_RX10_114 dX10_thing_49 ?_
        refine V.iload dX10_thing_52 rfl ?_
        refine V.iconst dX10_thing_54 ki_0 ?_
        refine V.iload_n dX10_thing_55 rfl rfl ?_
        obtain ⟨p28, h29, h⟩ := bnd h
        have w30 := w_X5_set (g := g) h29
        refine V.callVv (args := [LI p21.1, LI (0 : Int32), LI v1]) (st := []) w30.1 (oo_X5_set h29) mk_X5_set w30.2 vc_5 ml_RX10_103 im_X5_set se_X5_set rfl (Nat.le_of_ble_eq_true rfl) (by decide) rfl (Nat.le_of_ble_eq_true rfl) dX10_thing_56 ?_
        refine V.aload_n dX10_thing_59 rfl rfl ?_
        obtain ⟨x31, h32, h⟩ := bnd h
        refine V.getF (gR_F h32) CF10 (Nat.le_of_ble_eq_true rfl) fl_RX10_28 dX10_thing_60 ?_
        obtain ⟨x33, h34, h⟩ := bnd h
        refine V.getFN (gR_F h34) CF8 (Nat.le_of_ble_eq_true rfl) fl_RX10_114 dX10_thing_63 ?_
        refine V.iload dX10_thing_66 rfl ?_
        refine V.iconst dX10_thing_68 ki_1 ?_
        refine V.iload_n dX10_thing_69 rfl rfl ?_
        obtain ⟨p35, h36, h⟩ := bnd h
        have w37 := w_X5_set (g := g) h36
        refine V.callVv (args := [LI p21.1, LI (1 : Int32), LI v2]) (st := []) w37.1 (oo_X5_set h36) mk_X5_set w37.2 vc_5 ml_RX10_103 im_X5_set se_X5_set rfl (Nat.le_of_ble_eq_true rfl) (by decide) rfl (Nat.le_of_ble_eq_true rfl) dX10_thing_70 ?_
        refine V.aload_n dX10_thing_73 rfl rfl ?_
        obtain ⟨x38, h39, h⟩ := bnd h
        refine V.getF (gR_F h39) CF10 (Nat.le_of_ble_eq_true rfl) fl_RX10_28 dX10_thing_74 ?_
        obtain ⟨x40, h41, h⟩ := bnd h
        refine V.getFN (gR_F h41) CF8 (Nat.le_of_ble_eq_true rfl) fl_RX10_114 dX10_thing_77 ?_
        refine V.iload dX10_thing_80 rfl ?_
        refine V.iconst dX10_thing_82 ki_2 ?_
        refine V.iload_n dX10_thing_83 rfl rfl ?_
        obtain ⟨p42, h43, h⟩ := bnd h
        have w44 := w_X5_set (g := g) h43
        refine V.callVv (args := [LI p21.1, LI (2 : Int32), LI v3]) (st := []) w44.1 (oo_X5_set h43) mk_X5_set w44.2 vc_5 ml_RX10_103 im_X5_set se_X5_set rfl (Nat.le_of_ble_eq_true rfl) (by decide) rfl (Nat.le_of_ble_eq_true rfl) dX10_thing_84 ?_
        refine V.iload dX10_thing_87 rfl ?_
        obtain rfl := Option.some.inj h
        exact V.ireturn dX10_thing_89
      · have h := (if_pos c16).symm.trans h
        refine V.iconst dX10_thing_31 ki_m1 ?_
        obtain rfl := Option.some.inj h
        exact V.ireturn dX10_thing_32
def f_X10_thing (A : LH) (v0 : Option Nat) (v1 : Int32) (v2 : Int32) (v3 : Int32) : Option (Int32 × LH) := if isO A v0 10 = true then b_X10_thing A v0 v1 v2 v3 else none
theorem w_X10_thing {g : GG} {A : LH} {v0 : Option Nat} {v1 : Int32} {v2 : Int32} {v3 : Int32} {p : Int32 × LH} (h : f_X10_thing A v0 v1 v2 v3 = some p) : Ct g m_X10_thing 3 [LR v0, LI v1, LI v2, LI v3] A (some (LI p.1)) p.2 := by
  unfold f_X10_thing at h
  obtain ⟨ho, h⟩ := ifN h
  exact ⟨wb_X10_thing h, rfl⟩
theorem oo_X10_thing {A : LH} {v0 : Option Nat} {v1 : Int32} {v2 : Int32} {v3 : Int32} {p : Int32 × LH} (h : f_X10_thing A v0 v1 v2 v3 = some p) : isO A v0 10 = true := by unfold f_X10_thing at h; exact (ifN h).1
def b_X10_moves (A : LH) (v0 : Option Nat) (v1 : Int32) (v2 : Int32) (v3 : Int32) : Option (Int32 × LH) :=
  (gR A v0 10 2).bind fun x1 => (gR A x1 8 0).bind fun x3 => (f_X5_has A x3 v1).bind fun p5 => if p5 = 0 then some ((0 : Int32), A) else (f_X10_canBePerson v2 v3).bind fun p9 => if p9 = 0 then some ((0 : Int32), A) else (gR A v0 10 2).bind fun x13 => (gR A x13 8 0).bind fun x15 => (f_X5_set A x15 v1 (0 : Int32) v2).bind fun p17 => (gR p17 v0 10 2).bind fun x20 => (gR p17 x20 8 0).bind fun x22 => (f_X5_set p17 x22 v1 (1 : Int32) v3).bind fun p24 => some ((1 : Int32), p24)
set_option maxRecDepth 4000 in
theorem wb_X10_moves {g : GG} {n0 z0 : Nat} {A : LH} {v0 : Option Nat} {v1 : Int32} {v2 : Int32} {v3 : Int32} {p : Int32 × LH} (h : b_X10_moves A v0 v1 v2 v3 = some p) : V g m_X10_moves 3 n0 z0 (some (LI p.1)) p.2 A 0 [some (LR v0), some (LI v1), some (LI v2), some (LI v3)] [] := by
  unfold b_X10_moves at h
  refine V.aload_n dX10_moves_0 rfl rfl ?_
  obtain ⟨x1, h2, h⟩ := bnd h
  refine V.getF (gR_F h2) CF10 (Nat.le_of_ble_eq_true rfl) fl_RX10_28 dX10_moves_1 ?_
  obtain ⟨x3, h4, h⟩ := bnd h
  refine V.getFN (gR_F h4) CF8 (Nat.le_of_ble_eq_true rfl) fl_RX10_93 dX10_moves_4 ?_
  refine V.iload_n dX10_moves_7 rfl rfl ?_
  obtain ⟨p5, h6, h⟩ := bnd h
  have w7 := w_X5_has (g := g) h6
  refine V.callVi (args := [LI v1]) (st := []) w7.1 (oo_X5_has h6) mk_X5_has w7.2 vc_5 ml_RX10_110 im_X5_has se_X5_has rfl (Nat.le_of_ble_eq_true rfl) (by decide) rfl (Nat.le_of_ble_eq_true rfl) dX10_moves_8 ?_
  refine V.if_eq (tgt := 22) dX10_moves_11 (by decide) (fun c8 => ?_) (fun c8 => ?_)
  · have h := (if_pos c8).symm.trans h
    refine V.iconst dX10_moves_22 ki_0 ?_
    obtain rfl := Option.some.inj h
    exact V.ireturn dX10_moves_23
  · have h := (if_neg c8).symm.trans h
    refine V.iload_n dX10_moves_14 rfl rfl ?_
    refine V.iload_n dX10_moves_15 rfl rfl ?_
    obtain ⟨p9, h10, h⟩ := bnd h
    have w11 := w_X10_canBePerson (g := g) (A := A) h10
    refine V.callSi (args := [LI v2, LI v3]) (st := []) w11.1 mk_X10_canBePerson w11.2 ml_RX10_90 sm_X10_canBePerson rfl (Nat.le_of_ble_eq_true rfl) (by decide) rfl (Nat.le_of_ble_eq_true rfl) dX10_moves_16 ?_
    refine V.if_ne (tgt := 24) dX10_moves_19 (by decide) (fun c12 => ?_) (fun c12 => ?_)
    · have h := (if_neg c12).symm.trans h
      refine V.aload_n dX10_moves_24 rfl rfl ?_
      obtain ⟨x13, h14, h⟩ := bnd h
      refine V.getF (gR_F h14) CF10 (Nat.le_of_ble_eq_true rfl) fl_RX10_28 dX10_moves_25 ?_
      obtain ⟨x15, h16, h⟩ := bnd h
      refine V.getFN (gR_F h16) CF8 (Nat.le_of_ble_eq_true rfl) fl_RX10_93 dX10_moves_28 ?_
      refine V.iload_n dX10_moves_31 rfl rfl ?_
      refine V.iconst dX10_moves_32 ki_0 ?_
      refine V.iload_n dX10_moves_33 rfl rfl ?_
      obtain ⟨p17, h18, h⟩ := bnd h
      have w19 := w_X5_set (g := g) h18
      refine V.callVv (args := [LI v1, LI (0 : Int32), LI v2]) (st := []) w19.1 (oo_X5_set h18) mk_X5_set w19.2 vc_5 ml_RX10_103 im_X5_set se_X5_set rfl (Nat.le_of_ble_eq_true rfl) (by decide) rfl (Nat.le_of_ble_eq_true rfl) dX10_moves_34 ?_
      refine V.aload_n dX10_moves_37 rfl rfl ?_
      obtain ⟨x20, h21, h⟩ := bnd h
      refine V.getF (gR_F h21) CF10 (Nat.le_of_ble_eq_true rfl) fl_RX10_28 dX10_moves_38 ?_
      obtain ⟨x22, h23, h⟩ := bnd h
      refine V.getFN (gR_F h23) CF8 (Nat.le_of_ble_eq_true rfl) fl_RX10_93 dX10_moves_41 ?_
      refine V.iload_n dX10_moves_44 rfl rfl ?_
      refine V.iconst dX10_moves_45 ki_1 ?_
      refine V.iload_n dX10_moves_46 rfl rfl ?_
      obtain ⟨p24, h25, h⟩ := bnd h
      have w26 := w_X5_set (g := g) h25
      refine V.callVv (args := [LI v1, LI (1 : Int32), LI v3]) (st := []) w26.1 (oo_X5_set h25) mk_X5_set w26.2 vc_5 ml_RX10_103 im_X5_set se_X5_set rfl (Nat.le_of_ble_eq_true rfl) (by decide) rfl (Nat.le_of_ble_eq_true rfl) dX10_moves_47 ?_
      refine V.iconst dX10_moves_50 ki_1 ?_
      obtain rfl := Option.some.inj h
      exact V.ireturn dX10_moves_51
    · have h := (if_pos c12).symm.trans h
      refine V.iconst dX10_moves_22 ki_0 ?_
      obtain rfl := Option.some.inj h
      exact V.ireturn dX10_moves_23
def f_X10_moves (A : LH) (v0 : Option Nat) (v1 : Int32) (v2 : Int32) (v3 : Int32) : Option (Int32 × LH) := if isO A v0 10 = true then zc (b_X10_moves A v0 v1 v2 v3) else none
theorem w_X10_moves {g : GG} {A : LH} {v0 : Option Nat} {v1 : Int32} {v2 : Int32} {v3 : Int32} {p : Int32 × LH} (h : f_X10_moves A v0 v1 v2 v3 = some p) : Ct g m_X10_moves 3 [LR v0, LI v1, LI v2, LI v3] A (some (LI p.1)) p.2 := by
  unfold f_X10_moves at h
  obtain ⟨ho, h⟩ := ifN h
  obtain ⟨h, hz⟩ := zc_sp h
  exact ⟨wb_X10_moves h, (RTz hz)⟩
theorem oo_X10_moves {A : LH} {v0 : Option Nat} {v1 : Int32} {v2 : Int32} {v3 : Int32} {p : Int32 × LH} (h : f_X10_moves A v0 v1 v2 v3 = some p) : isO A v0 10 = true := by unfold f_X10_moves at h; exact (ifN h).1
def b_X10_gives (A : LH) (v0 : Option Nat) (v1 : Int32) (v2 : Int32) (v3 : Int32) : Option (Int32 × LH) :=
  (gR A v0 10 2).bind fun x1 => (gR A x1 8 1).bind fun x3 => (f_X5_has A x3 v1).bind fun p5 => if p5 = 0 then some ((0 : Int32), A) else (gR A v0 10 2).bind fun x9 => (gR A x9 8 0).bind fun x11 => (f_X5_has A x11 v2).bind fun p13 => if p13 = 0 then some ((0 : Int32), A) else (f_X10_isUpTo v3 (5 : Int32)).bind fun p17 => if p17 = 0 then some ((0 : Int32), A) else (gR A v0 10 2).bind fun x21 => (gR A x21 8 1).bind fun x23 => (f_X5_set A x23 v1 (2 : Int32) v2).bind fun p25 => (gR p25 v0 10 2).bind fun x28 => (gR p25 x28 8 1).bind fun x30 => (f_X5_set p25 x30 v1 (1 : Int32) v3).bind fun p32 => some ((1 : Int32), p32)
set_option maxRecDepth 4000 in
theorem wb_X10_gives {g : GG} {n0 z0 : Nat} {A : LH} {v0 : Option Nat} {v1 : Int32} {v2 : Int32} {v3 : Int32} {p : Int32 × LH} (h : b_X10_gives A v0 v1 v2 v3 = some p) : V g m_X10_gives 3 n0 z0 (some (LI p.1)) p.2 A 0 [some (LR v0), some (LI v1), some (LI v2), some (LI v3)] [] := by
  unfold b_X10_gives at h
  refine V.aload_n dX10_gives_0 rfl rfl ?_
  obtain ⟨x1, h2, h⟩ := bnd h
  refine V.getF (gR_F h2) CF10 (Nat.le_of_ble_eq_true rfl) fl_RX10_28 dX10_gives_1 ?_
  obtain ⟨x3, h4, h⟩ := bnd h
  refine V.getFN (gR_F h4) CF8 (Nat.le_of_ble_eq_true rfl) fl_RX10_114 dX10_gives_4 ?_
  refine V.iload_n dX10_gives_7 rfl rfl ?_
  obtain ⟨p5, h6, h⟩ := bnd h
  have w7 := w_X5_has (g := g) h6
  refine V.callVi (args := [LI v1]) (st := []) w7.1 (oo_X5_has h6) mk_X5_has w7.2 vc_5 ml_RX10_110 im_X5_has se_X5_has rfl (Nat.le_of_ble_eq_true rfl) (by decide) rfl (Nat.le_of_ble_eq_true rfl) dX10_gives_8 ?_
  refine V.if_eq (tgt := 36) dX10_gives_11 (by decide) (fun c8 => ?_) (fun c8 => ?_)
  · have h := (if_pos c8).symm.trans h
    refine V.iconst dX10_gives_36 ki_0 ?_
    obtain rfl := Option.some.inj h
    exact V.ireturn dX10_gives_37
  · have h := (if_neg c8).symm.trans h
    refine V.aload_n dX10_gives_14 rfl rfl ?_
    obtain ⟨x9, h10, h⟩ := bnd h
    refine V.getF (gR_F h10) CF10 (Nat.le_of_ble_eq_true rfl) fl_RX10_28 dX10_gives_15 ?_
    obtain ⟨x11, h12, h⟩ := bnd h
    refine V.getFN (gR_F h12) CF8 (Nat.le_of_ble_eq_true rfl) fl_RX10_93 dX10_gives_18 ?_
    refine V.iload_n dX10_gives_21 rfl rfl ?_
    obtain ⟨p13, h14, h⟩ := bnd h
    have w15 := w_X5_has (g := g) h14
    refine V.callVi (args := [LI v2]) (st := []) w15.1 (oo_X5_has h14) mk_X5_has w15.2 vc_5 ml_RX10_110 im_X5_has se_X5_has rfl (Nat.le_of_ble_eq_true rfl) (by decide) rfl (Nat.le_of_ble_eq_true rfl) dX10_gives_22 ?_
    refine V.if_eq (tgt := 36) dX10_gives_25 (by decide) (fun c16 => ?_) (fun c16 => ?_)
    · have h := (if_pos c16).symm.trans h
      refine V.iconst dX10_gives_36 ki_0 ?_
      obtain rfl := Option.some.inj h
      exact V.ireturn dX10_gives_37
    · have h := (if_neg c16).symm.trans h
      refine V.iload_n dX10_gives_28 rfl rfl ?_
      refine V.iconst dX10_gives_29 ki_5 ?_
      obtain ⟨p17, h18, h⟩ := bnd h
      have w19 := w_X10_isUpTo (g := g) (A := A) h18
      refine V.callSi (args := [LI v3, LI (5 : Int32)]) (st := []) w19.1 mk_X10_isUpTo w19.2 ml_RX10_107 sm_X10_isUpTo rfl (Nat.le_of_ble_eq_true rfl) (by decide) rfl (Nat.le_of_ble_eq_true rfl) dX10_gives_30 ?_
      refine V.if_ne (tgt := 38) dX10_gives_33 (by decide) (fun c20 => ?_) (fun c20 => ?_)
      · have h := (if_neg c20).symm.trans h
        refine V.aload_n dX10_gives_38 rfl rfl ?_
        obtain ⟨x21, h22, h⟩ := bnd h
        refine V.getF (gR_F h22) CF10 (Nat.le_of_ble_eq_true rfl) fl_RX10_28 dX10_gives_39 ?_
        obtain ⟨x23, h24, h⟩ := bnd h
        refine V.getFN (gR_F h24) CF8 (Nat.le_of_ble_eq_true rfl) fl_RX10_114 dX10_gives_42 ?_
        refine V.iload_n dX10_gives_45 rfl rfl ?_
        refine V.iconst dX10_gives_46 ki_2 ?_
        refine V.iload_n dX10_gives_47 rfl rfl ?_
        obtain ⟨p25, h26, h⟩ := bnd h
        have w27 := w_X5_set (g := g) h26
        refine V.callVv (args := [LI v1, LI (2 : Int32), LI v2]) (st := []) w27.1 (oo_X5_set h26) mk_X5_set w27.2 vc_5 ml_RX10_103 im_X5_set se_X5_set rfl (Nat.le_of_ble_eq_true rfl) (by decide) rfl (Nat.le_of_ble_eq_true rfl) dX10_gives_48 ?_
        refine V.aload_n dX10_gives_51 rfl rfl ?_
        obtain ⟨x28, h29, h⟩ := bnd h
        refine V.getF (gR_F h29) CF10 (Nat.le_of_ble_eq_true rfl) fl_RX10_28 dX10_gives_52 ?_
        obtain ⟨x30, h31, h⟩ := bnd h
        refine V.getFN (gR_F h31) CF8 (Nat.le_of_ble_eq_true rfl) fl_RX10_114 dX10_gives_55 ?_
        refine V.iload_n dX10_gives_58 rfl rfl ?_
        refine V.iconst dX10_gives_59 ki_1 ?_
        refine V.iload_n dX10_gives_60 rfl rfl ?_
        obtain ⟨p32, h33, h⟩ := bnd h
        have w34 := w_X5_set (g := g) h33
        refine V.callVv (args := [LI v1, LI (1 : Int32), LI v3]) (st := []) w34.1 (oo_X5_set h33) mk_X5_set w34.2 vc_5 ml_RX10_103 im_X5_set se_X5_set rfl (Nat.le_of_ble_eq_true rfl) (by decide) rfl (Nat.le_of_ble_eq_true rfl) dX10_gives_61 ?_
        refine V.iconst dX10_gives_64 ki_1 ?_
        obtain rfl := Option.some.inj h
        exact V.ireturn dX10_gives_65
      · have h := (if_pos c20).symm.trans h
        refine V.iconst dX10_gives_36 ki_0 ?_
        obtain rfl := Option.some.inj h
        exact V.ireturn dX10_gives_37
def f_X10_gives (A : LH) (v0 : Option Nat) (v1 : Int32) (v2 : Int32) (v3 : Int32) : Option (Int32 × LH) := if isO A v0 10 = true then zc (b_X10_gives A v0 v1 v2 v3) else none
theorem w_X10_gives {g : GG} {A : LH} {v0 : Option Nat} {v1 : Int32} {v2 : Int32} {v3 : Int32} {p : Int32 × LH} (h : f_X10_gives A v0 v1 v2 v3 = some p) : Ct g m_X10_gives 3 [LR v0, LI v1, LI v2, LI v3] A (some (LI p.1)) p.2 := by
  unfold f_X10_gives at h
  obtain ⟨ho, h⟩ := ifN h
  obtain ⟨h, hz⟩ := zc_sp h
  exact ⟨wb_X10_gives h, (RTz hz)⟩
theorem oo_X10_gives {A : LH} {v0 : Option Nat} {v1 : Int32} {v2 : Int32} {v3 : Int32} {p : Int32 × LH} (h : f_X10_gives A v0 v1 v2 v3 = some p) : isO A v0 10 = true := by unfold f_X10_gives at h; exact (ifN h).1
def b_X10_tell_9 (A : LH) (v0 : Option Nat) (v1 : Int32) (v2 : Int32) : Option (Int32) :=
  (gR A v0 10 2).bind fun x2 => (gR A x2 8 0).bind fun x4 => (f_X5_get A x4 v1 v2).bind fun p6 => some p6
set_option maxRecDepth 4000 in
theorem wb_X10_tell_9 {g : GG} {n0 z0 : Nat} {A : LH} {v0 : Option Nat} {v1 : Int32} {v2 : Int32} {p : Int32} (h : b_X10_tell_9 A v0 v1 v2 = some p) : V g m_X10_tell 3 n0 z0 (some (LI p)) A A 9 [some (LR v0), some (LI v1), some (LI v2)] [] := by
  unfold b_X10_tell_9 at h
  refine V.aload_n dX10_tell_9 rfl rfl ?_
  obtain ⟨x2, h3, h⟩ := bnd h
  refine V.getF (gR_F h3) CF10 (Nat.le_of_ble_eq_true rfl) fl_RX10_28 dX10_tell_10 ?_
  obtain ⟨x4, h5, h⟩ := bnd h
  refine V.getFN (gR_F h5) CF8 (Nat.le_of_ble_eq_true rfl) fl_RX10_93 dX10_tell_13 ?_
  refine V.iload_n dX10_tell_16 rfl rfl ?_
  refine V.iload_n dX10_tell_17 rfl rfl ?_
  obtain ⟨p6, h7, h⟩ := bnd h
  have w8 := w_X5_get (g := g) h7
  refine V.callVi (args := [LI v1, LI v2]) (st := []) w8.1 (oo_X5_get h7) mk_X5_get w8.2 vc_5 ml_RX10_117 im_X5_get se_X5_get rfl (Nat.le_of_ble_eq_true rfl) (by decide) rfl (Nat.le_of_ble_eq_true rfl) dX10_tell_18 ?_
  obtain rfl := Option.some.inj h
  exact V.ireturn dX10_tell_21
def b_X10_tell (A : LH) (v0 : Option Nat) (v1 : Int32) (v2 : Int32) : Option (Int32) :=
  if v2 = 0 then b_X10_tell_9 A v0 v1 v2 else if v2 = (1 : Int32) then b_X10_tell_9 A v0 v1 v2 else if v2 < (2 : Int32) then some (-1 : Int32) else if (4 : Int32) < v2 then some (-1 : Int32) else (gR A v0 10 2).bind fun x12 => (gR A x12 8 1).bind fun x14 => (f_X5_get A x14 v1 (v2 - (2 : Int32))).bind fun p16 => some p16
set_option maxRecDepth 4000 in
theorem wb_X10_tell {g : GG} {n0 z0 : Nat} {A : LH} {v0 : Option Nat} {v1 : Int32} {v2 : Int32} {p : Int32} (h : b_X10_tell A v0 v1 v2 = some p) : V g m_X10_tell 3 n0 z0 (some (LI p)) A A 0 [some (LR v0), some (LI v1), some (LI v2)] [] := by
  unfold b_X10_tell at h
  refine V.iload_n dX10_tell_0 rfl rfl ?_
  refine V.if_eq (tgt := 9) dX10_tell_1 (by decide) (fun c1 => ?_) (fun c1 => ?_)
  · have h := (if_pos c1).symm.trans h
    refine V.weak [true, true, true] ?_
    exact wb_X10_tell_9 h
  · have h := (if_neg c1).symm.trans h
    refine V.iload_n dX10_tell_4 rfl rfl ?_
    refine V.iconst dX10_tell_5 ki_1 ?_
    refine V.icmp_ne (tgt := 22) dX10_tell_6 (by decide) (fun c9 => ?_) (fun c9 => ?_)
    · have h := (if_neg c9).symm.trans h
      refine V.iload_n dX10_tell_22 rfl rfl ?_
      refine V.iconst dX10_tell_23 ki_2 ?_
      refine V.icmp_lt (tgt := 49) dX10_tell_24 (by decide) (fun c10 => ?_) (fun c10 => ?_)
      · have h := (if_pos c10).symm.trans h
        refine V.iconst dX10_tell_49 ki_m1 ?_
        obtain rfl := Option.some.inj h
        exact V.ireturn dX10_tell_50
      · have h := (if_neg c10).symm.trans h
        refine V.iload_n dX10_tell_27 rfl rfl ?_
        refine V.iconst dX10_tell_28 ki_4 ?_
        refine V.icmp_gt (tgt := 49) dX10_tell_29 (by decide) (fun c11 => ?_) (fun c11 => ?_)
        · have h := (if_pos c11).symm.trans h
          refine V.iconst dX10_tell_49 ki_m1 ?_
          obtain rfl := Option.some.inj h
          exact V.ireturn dX10_tell_50
        · have h := (if_neg c11).symm.trans h
          refine V.aload_n dX10_tell_32 rfl rfl ?_
          obtain ⟨x12, h13, h⟩ := bnd h
          refine V.getF (gR_F h13) CF10 (Nat.le_of_ble_eq_true rfl) fl_RX10_28 dX10_tell_33 ?_
          obtain ⟨x14, h15, h⟩ := bnd h
          refine V.getFN (gR_F h15) CF8 (Nat.le_of_ble_eq_true rfl) fl_RX10_114 dX10_tell_36 ?_
          refine V.iload_n dX10_tell_39 rfl rfl ?_
          refine V.iload_n dX10_tell_40 rfl rfl ?_
          refine V.iconst dX10_tell_41 ki_2 ?_
          refine V.isub dX10_tell_42 ?_
          obtain ⟨p16, h17, h⟩ := bnd h
          have w18 := w_X5_get (g := g) h17
          refine V.callVi (args := [LI v1, LI (v2 - (2 : Int32))]) (st := []) w18.1 (oo_X5_get h17) mk_X5_get w18.2 vc_5 ml_RX10_117 im_X5_get se_X5_get rfl (Nat.le_of_ble_eq_true rfl) (by decide) rfl (Nat.le_of_ble_eq_true rfl) dX10_tell_43 ?_
          refine V.goto (tgt := 50) dX10_tell_46 (by decide) ?_
          obtain rfl := Option.some.inj h
          exact V.ireturn dX10_tell_50
    · have h := (if_pos c9).symm.trans h
      refine V.weak [true, true, true] ?_
      exact wb_X10_tell_9 h
def f_X10_tell (A : LH) (v0 : Option Nat) (v1 : Int32) (v2 : Int32) : Option (Int32) := if isO A v0 10 = true then b_X10_tell A v0 v1 v2 else none
theorem w_X10_tell {g : GG} {A : LH} {v0 : Option Nat} {v1 : Int32} {v2 : Int32} {p : Int32} (h : f_X10_tell A v0 v1 v2 = some p) : Ct g m_X10_tell 3 [LR v0, LI v1, LI v2] A (some (LI p)) A := by
  unfold f_X10_tell at h
  obtain ⟨ho, h⟩ := ifN h
  exact ⟨wb_X10_tell h, rfl⟩
theorem oo_X10_tell {A : LH} {v0 : Option Nat} {v1 : Int32} {v2 : Int32} {p : Int32} (h : f_X10_tell A v0 v1 v2 = some p) : isO A v0 10 = true := by unfold f_X10_tell at h; exact (ifN h).1
def b_X10_rulesIn (A : LH) (v0 : Option Nat) (v1 : Int32) : Option (Option Nat) :=
  (f_X10_isIn v1 (4 : Int32)).bind fun p1 => if p1 = 0 then some none else (gR A v0 10 2).bind fun x5 => (gR A x5 8 3).bind fun x7 => (aR A x7 4 v1).bind fun x9 => some x9
set_option maxRecDepth 4000 in
theorem wb_X10_rulesIn {g : GG} {n0 z0 : Nat} {A : LH} {v0 : Option Nat} {v1 : Int32} {p : Option Nat} (h : b_X10_rulesIn A v0 v1 = some p) : V g m_X10_rulesIn 1 n0 z0 (some (LR p)) A A 0 [some (LR v0), some (LI v1)] [] := by
  unfold b_X10_rulesIn at h
  refine V.iload_n dX10_rulesIn_0 rfl rfl ?_
  refine V.iconst dX10_rulesIn_1 ki_4 ?_
  obtain ⟨p1, h2, h⟩ := bnd h
  have w3 := w_X10_isIn (g := g) (A := A) h2
  refine V.callSi (args := [LI v1, LI (4 : Int32)]) (st := []) w3.1 mk_X10_isIn w3.2 ml_RX10_68 sm_X10_isIn rfl (Nat.le_of_ble_eq_true rfl) (by decide) rfl (Nat.le_of_ble_eq_true rfl) dX10_rulesIn_2 ?_
  refine V.if_eq (tgt := 20) dX10_rulesIn_5 (by decide) (fun c4 => ?_) (fun c4 => ?_)
  · have h := (if_pos c4).symm.trans h
    refine V.null dX10_rulesIn_20 ?_
    obtain rfl := Option.some.inj h
    exact V.areturn dX10_rulesIn_21
  · have h := (if_neg c4).symm.trans h
    refine V.aload_n dX10_rulesIn_8 rfl rfl ?_
    obtain ⟨x5, h6, h⟩ := bnd h
    refine V.getF (gR_F h6) CF10 (Nat.le_of_ble_eq_true rfl) fl_RX10_28 dX10_rulesIn_9 ?_
    obtain ⟨x7, h8, h⟩ := bnd h
    refine V.getFN (gR_F h8) CF8 (Nat.le_of_ble_eq_true rfl) fl_RX10_238 dX10_rulesIn_12 ?_
    refine V.iload_n dX10_rulesIn_15 rfl rfl ?_
    obtain ⟨x9, h10, h⟩ := bnd h
    refine V.aald h10 rfl dX10_rulesIn_16 ?_
    refine V.goto (tgt := 21) dX10_rulesIn_17 (by decide) ?_
    obtain rfl := Option.some.inj h
    exact V.areturn dX10_rulesIn_21
def f_X10_rulesIn (A : LH) (v0 : Option Nat) (v1 : Int32) : Option (Option Nat) := if isO A v0 10 = true then b_X10_rulesIn A v0 v1 else none
theorem w_X10_rulesIn {g : GG} {A : LH} {v0 : Option Nat} {v1 : Int32} {p : Option Nat} (h : f_X10_rulesIn A v0 v1 = some p) : Ct g m_X10_rulesIn 1 [LR v0, LI v1] A (some (LR p)) A := by
  unfold f_X10_rulesIn at h
  obtain ⟨ho, h⟩ := ifN h
  exact ⟨wb_X10_rulesIn h, (Or.inl ⟨_, rfl⟩)⟩
theorem oo_X10_rulesIn {A : LH} {v0 : Option Nat} {v1 : Int32} {p : Option Nat} (h : f_X10_rulesIn A v0 v1 = some p) : isO A v0 10 = true := by unfold f_X10_rulesIn at h; exact (ifN h).1
def b_X10_decide (N : Nat) (A : LH) (v0 : Option Nat) (v1 : Int32) (v2 : Int32) (v3 : Int32) (v4 : Int32) (v5 : Int32) (v6 : Int32) : Option (Int32 × LH) :=
  (f_X10_rulesIn A v0 v1).bind fun p1 => if p1 = none then some ((-2 : Int32), A) else (gR A v0 10 2).bind fun x5 => (f_X8_canBeAsked A x5 v2 v3 v4 v5).bind fun p7 => if p7 = 0 then some ((-2 : Int32), A) else (gR A v0 10 4).bind fun x11 => (gR A v0 10 2).bind fun x13 => (f_X9_stand A x11 x13 v2 v3 v4 v5).bind fun p15 => if v6 = 0 then (gR p15 v0 10 4).bind fun x19 => (f_X9_lets N p15 x19 p1).bind fun p21 => if p21.1 = 0 then some ((0 : Int32), p21.2) else some ((1 : Int32), p21.2) else (gR p15 v0 10 4).bind fun x25 => (f_X9_decider N p15 x25 p1).bind fun p27 => some (p27.1, p27.2)
set_option maxRecDepth 4000 in
theorem wb_X10_decide {g : GG} {n0 z0 : Nat} (N : Nat) {A : LH} {v0 : Option Nat} {v1 : Int32} {v2 : Int32} {v3 : Int32} {v4 : Int32} {v5 : Int32} {v6 : Int32} {p : Int32 × LH} (h : b_X10_decide N A v0 v1 v2 v3 v4 v5 v6 = some p) : V g m_X10_decide 7 n0 z0 (some (LI p.1)) p.2 A 0 [some (LR v0), some (LI v1), some (LI v2), some (LI v3), some (LI v4), some (LI v5), some (LI v6)] [] := by
  unfold b_X10_decide at h
  refine V.aload_n dX10_decide_0 rfl rfl ?_
  refine V.iload_n dX10_decide_1 rfl rfl ?_
  obtain ⟨p1, h2, h⟩ := bnd h
  have w3 := w_X10_rulesIn (g := g) h2
  refine V.callVr (args := [LI v1]) (st := []) w3.1 (oo_X10_rulesIn h2) mk_X10_rulesIn w3.2 vc_10 ml_RX10_121 im_X10_rulesIn se_X10_rulesIn rfl (Nat.le_of_ble_eq_true rfl) (by decide) rfl (Nat.le_of_ble_eq_true rfl) dX10_decide_2 ?_
  refine V.astore (ls' := [some (LR v0), some (LI v1), some (LI v2), some (LI v3), some (LI v4), some (LI v5), some (LI v6), some (LR p1)]) dX10_decide_5 (by decide) rfl rfl ?_
  refine V.aload dX10_decide_7 rfl ?_
  refine V.ifnull_ (tgt := 28) dX10_decide_9 (by decide) (fun c30 => ?_) (fun c30 => ?_)
  · have h := (if_pos c30).symm.trans h
    refine V.bipush dX10_decide_28 kb_m2 ?_
    obtain rfl := Option.some.inj h
    exact V.ireturn dX10_decide_30
  · have h := (if_neg c30).symm.trans h
    refine V.aload_n dX10_decide_12 rfl rfl ?_
    obtain ⟨x5, h6, h⟩ := bnd h
    refine V.getF (gR_F h6) CF10 (Nat.le_of_ble_eq_true rfl) fl_RX10_28 dX10_decide_13 ?_
    refine V.iload_n dX10_decide_16 rfl rfl ?_
    refine V.iload_n dX10_decide_17 rfl rfl ?_
    refine V.iload dX10_decide_18 rfl ?_
    refine V.iload dX10_decide_20 rfl ?_
    obtain ⟨p7, h8, h⟩ := bnd h
    have w9 := w_X8_canBeAsked (g := g) h8
    refine V.callVi (args := [LI v2, LI v3, LI v4, LI v5]) (st := []) w9.1 (oo_X8_canBeAsked h8) mk_X8_canBeAsked w9.2 vc_8 ml_RX10_125 im_X8_canBeAsked se_X8_canBeAsked rfl (Nat.le_of_ble_eq_true rfl) (by decide) rfl (Nat.le_of_ble_eq_true rfl) dX10_decide_22 ?_
    refine V.if_ne (tgt := 31) dX10_decide_25 (by decide) (fun c10 => ?_) (fun c10 => ?_)
    · have h := (if_neg c10).symm.trans h
      refine V.aload_n dX10_decide_31 rfl rfl ?_
      obtain ⟨x11, h12, h⟩ := bnd h
      refine V.getF (gR_F h12) CF10 (Nat.le_of_ble_eq_true rfl) fl_RX10_39 dX10_decide_32 ?_
      refine V.aload_n dX10_decide_35 rfl rfl ?_
      obtain ⟨x13, h14, h⟩ := bnd h
      refine V.getF (gR_F h14) CF10 (Nat.le_of_ble_eq_true rfl) fl_RX10_28 dX10_decide_36 ?_
      refine V.iload_n dX10_decide_39 rfl rfl ?_
      refine V.iload_n dX10_decide_40 rfl rfl ?_
      refine V.iload dX10_decide_41 rfl ?_
      refine V.iload dX10_decide_43 rfl ?_
      obtain ⟨p15, h16, h⟩ := bnd h
      have w17 := w_X9_stand (g := g) h16
      refine V.callVv (args := [LR x13, LI v2, LI v3, LI v4, LI v5]) (st := []) w17.1 (oo_X9_stand h16) mk_X9_stand w17.2 vc_9 ml_RX10_129 im_X9_stand se_X9_stand rfl (Nat.le_of_ble_eq_true rfl) (by decide) rfl (Nat.le_of_ble_eq_true rfl) dX10_decide_45 ?_
      refine V.iload dX10_decide_48 rfl ?_
      refine V.if_eq (tgt := 63) dX10_decide_50 (by decide) (fun c18 => ?_) (fun c18 => ?_)
      · have h := (if_pos c18).symm.trans h
        refine V.aload_n dX10_decide_63 rfl rfl ?_
        obtain ⟨x19, h20, h⟩ := bnd h
        refine V.getF (gR_F h20) CF10 (Nat.le_of_ble_eq_true rfl) fl_RX10_39 dX10_decide_64 ?_
        refine V.aload dX10_decide_67 rfl ?_
        obtain ⟨p21, h22, h⟩ := bnd h
        have w23 := w_X9_lets (g := g) N h22
        refine V.callVi (args := [LR p1]) (st := []) w23.1 (oo_X9_lets h22) mk_X9_lets w23.2 vc_9 ml_RX10_137 im_X9_lets se_X9_lets rfl (Nat.le_of_ble_eq_true rfl) (by decide) rfl (Nat.le_of_ble_eq_true rfl) dX10_decide_69 ?_
        refine V.if_eq (tgt := 79) dX10_decide_72 (by decide) (fun c24 => ?_) (fun c24 => ?_)
        · have h := (if_pos c24).symm.trans h
          refine V.iconst dX10_decide_79 ki_0 ?_
          obtain rfl := Option.some.inj h
          exact V.ireturn dX10_decide_80
        · have h := (if_neg c24).symm.trans h
          refine V.iconst dX10_decide_75 ki_1 ?_
          refine V.goto (tgt := 80) dX10_decide_76 (by decide) ?_
          obtain rfl := Option.some.inj h
          exact V.ireturn dX10_decide_80
      · have h := (if_neg c18).symm.trans h
        refine V.aload_n dX10_decide_53 rfl rfl ?_
        obtain ⟨x25, h26, h⟩ := bnd h
        refine V.getF (gR_F h26) CF10 (Nat.le_of_ble_eq_true rfl) fl_RX10_39 dX10_decide_54 ?_
        refine V.aload dX10_decide_57 rfl ?_
        obtain ⟨p27, h28, h⟩ := bnd h
        have w29 := w_X9_decider (g := g) N h28
        refine V.callVi (args := [LR p1]) (st := []) w29.1 (oo_X9_decider h28) mk_X9_decider w29.2 vc_9 ml_RX10_133 im_X9_decider se_X9_decider rfl (Nat.le_of_ble_eq_true rfl) (by decide) rfl (Nat.le_of_ble_eq_true rfl) dX10_decide_59 ?_
        obtain rfl := Option.some.inj h
        exact V.ireturn dX10_decide_62
    · have h := (if_pos c10).symm.trans h
      refine V.bipush dX10_decide_28 kb_m2 ?_
      obtain rfl := Option.some.inj h
      exact V.ireturn dX10_decide_30
def f_X10_decide (N : Nat) (A : LH) (v0 : Option Nat) (v1 : Int32) (v2 : Int32) (v3 : Int32) (v4 : Int32) (v5 : Int32) (v6 : Int32) : Option (Int32 × LH) := if isO A v0 10 = true then b_X10_decide N A v0 v1 v2 v3 v4 v5 v6 else none
theorem w_X10_decide {g : GG} (N : Nat) {A : LH} {v0 : Option Nat} {v1 : Int32} {v2 : Int32} {v3 : Int32} {v4 : Int32} {v5 : Int32} {v6 : Int32} {p : Int32 × LH} (h : f_X10_decide N A v0 v1 v2 v3 v4 v5 v6 = some p) : Ct g m_X10_decide 7 [LR v0, LI v1, LI v2, LI v3, LI v4, LI v5, LI v6] A (some (LI p.1)) p.2 := by
  unfold f_X10_decide at h
  obtain ⟨ho, h⟩ := ifN h
  exact ⟨wb_X10_decide N h, rfl⟩
theorem oo_X10_decide {N : Nat} {A : LH} {v0 : Option Nat} {v1 : Int32} {v2 : Int32} {v3 : Int32} {v4 : Int32} {v5 : Int32} {v6 : Int32} {p : Int32 × LH} (h : f_X10_decide N A v0 v1 v2 v3 v4 v5 v6 = some p) : isO A v0 10 = true := by unfold f_X10_decide at h; exact (ifN h).1
def b_X10_ask (A : LH) (v0 : Option Nat) (v1 : Int32) (v2 : Int32) (v3 : Int32) (v4 : Int32) : Option (Int32 × LH) :=
  (gR A v0 10 2).bind fun x1 => (f_X8_canBeAsked A x1 v1 v2 v3 v4).bind fun p3 => if p3 = 0 then some ((-1 : Int32), A) else (gR A v0 10 2).bind fun x7 => (gR A x7 8 2).bind fun x9 => (f_X5_addRow A x9).bind fun p11 => (gR p11.2 v0 10 2).bind fun x14 => (gR p11.2 x14 8 2).bind fun x16 => (f_X5_set p11.2 x16 p11.1 (0 : Int32) v1).bind fun p18 => (gR p18 v0 10 2).bind fun x21 => (gR p18 x21 8 2).bind fun x23 => (f_X5_set p18 x23 p11.1 (1 : Int32) v2).bind fun p25 => (gR p25 v0 10 2).bind fun x28 => (gR p25 x28 8 2).bind fun x30 => (f_X5_set p25 x30 p11.1 (2 : Int32) v3).bind fun p32 => (gR p32 v0 10 2).bind fun x35 => (gR p32 x35 8 2).bind fun x37 => (f_X5_set p32 x37 p11.1 (3 : Int32) v4).bind fun p39 => (gR p39 v0 10 2).bind fun x42 => (gR p39 x42 8 2).bind fun x44 => (f_X5_set p39 x44 p11.1 (4 : Int32) (-1 : Int32)).bind fun p46 => some (p11.1, p46)
set_option maxRecDepth 4000 in
theorem wb_X10_ask {g : GG} {n0 z0 : Nat} {A : LH} {v0 : Option Nat} {v1 : Int32} {v2 : Int32} {v3 : Int32} {v4 : Int32} {p : Int32 × LH} (h : b_X10_ask A v0 v1 v2 v3 v4 = some p) : V g m_X10_ask 3 n0 z0 (some (LI p.1)) p.2 A 0 [some (LR v0), some (LI v1), some (LI v2), some (LI v3), some (LI v4)] [] := by
  unfold b_X10_ask at h
  refine V.aload_n dX10_ask_0 rfl rfl ?_
  obtain ⟨x1, h2, h⟩ := bnd h
  refine V.getF (gR_F h2) CF10 (Nat.le_of_ble_eq_true rfl) fl_RX10_28 dX10_ask_1 ?_
  refine V.iload_n dX10_ask_4 rfl rfl ?_
  refine V.iload_n dX10_ask_5 rfl rfl ?_
  refine V.iload_n dX10_ask_6 rfl rfl ?_
  refine V.iload dX10_ask_7 rfl ?_
  obtain ⟨p3, h4, h⟩ := bnd h
  have w5 := w_X8_canBeAsked (g := g) h4
  refine V.callVi (args := [LI v1, LI v2, LI v3, LI v4]) (st := []) w5.1 (oo_X8_canBeAsked h4) mk_X8_canBeAsked w5.2 vc_8 ml_RX10_125 im_X8_canBeAsked se_X8_canBeAsked rfl (Nat.le_of_ble_eq_true rfl) (by decide) rfl (Nat.le_of_ble_eq_true rfl) dX10_ask_9 ?_
  refine V.if_ne (tgt := 17) dX10_ask_12 (by decide) (fun c6 => ?_) (fun c6 => ?_)
  · have h := (if_neg c6).symm.trans h
    refine V.aload_n dX10_ask_17 rfl rfl ?_
    obtain ⟨x7, h8, h⟩ := bnd h
    refine V.getF (gR_F h8) CF10 (Nat.le_of_ble_eq_true rfl) fl_RX10_28 dX10_ask_18 ?_
    obtain ⟨x9, h10, h⟩ := bnd h
    refine V.getFN (gR_F h10) CF8 (Nat.le_of_ble_eq_true rfl) fl_RX10_141 dX10_ask_21 ?_
    obtain ⟨p11, h12, h⟩ := bnd h
    have w13 := w_X5_addRow (g := g) h12
    refine V.callVi (args := []) (st := []) w13.1 (oo_X5_addRow h12) mk_X5_addRow w13.2 vc_5 ml_RX10_97 im_X5_addRow se_X5_addRow rfl (Nat.le_of_ble_eq_true rfl) (by decide) rfl (Nat.le_of_ble_eq_true rfl) dX10_ask_24 ?_
    refine V.istore (ls' := [some (LR v0), some (LI v1), some (LI v2), some (LI v3), some (LI v4), some (LI p11.1)]) dX10_ask_27 (by decide) rfl rfl ?_
    refine V.aload_n dX10_ask_29 rfl rfl ?_
    obtain ⟨x14, h15, h⟩ := bnd h
    refine V.getF (gR_F h15) CF10 (Nat.le_of_ble_eq_true rfl) fl_RX10_28 dX10_ask_30 ?_
    obtain ⟨x16, h17, h⟩ := bnd h
    refine V.getFN (gR_F h17) CF8 (Nat.le_of_ble_eq_true rfl) fl_RX10_141 dX10_ask_33 ?_
    refine V.iload dX10_ask_36 rfl ?_
    refine V.iconst dX10_ask_38 ki_0 ?_
    refine V.iload_n dX10_ask_39 rfl rfl ?_
    obtain ⟨p18, h19, h⟩ := bnd h
    have w20 := w_X5_set (g := g) h19
    refine V.callVv (args := [LI p11.1, LI (0 : Int32), LI v1]) (st := []) w20.1 (oo_X5_set h19) mk_X5_set w20.2 vc_5 ml_RX10_103 im_X5_set se_X5_set rfl (Nat.le_of_ble_eq_true rfl) (by decide) rfl (Nat.le_of_ble_eq_true rfl) dX10_ask_40 ?_
    refine V.aload_n dX10_ask_43 rfl rfl ?_
    obtain ⟨x21, h22, h⟩ := bnd h
    refine V.getF (gR_F h22) CF10 (Nat.le_of_ble_eq_true rfl) fl_RX10_28 dX10_ask_44 ?_
    obtain ⟨x23, h24, h⟩ := bnd h
    refine V.getFN (gR_F h24) CF8 (Nat.le_of_ble_eq_true rfl) fl_RX10_141 dX10_ask_47 ?_
    refine V.iload dX10_ask_50 rfl ?_
    refine V.iconst dX10_ask_52 ki_1 ?_
    refine V.iload_n dX10_ask_53 rfl rfl ?_
    obtain ⟨p25, h26, h⟩ := bnd h
    have w27 := w_X5_set (g := g) h26
    refine V.callVv (args := [LI p11.1, LI (1 : Int32), LI v2]) (st := []) w27.1 (oo_X5_set h26) mk_X5_set w27.2 vc_5 ml_RX10_103 im_X5_set se_X5_set rfl (Nat.le_of_ble_eq_true rfl) (by decide) rfl (Nat.le_of_ble_eq_true rfl) dX10_ask_54 ?_
    refine V.aload_n dX10_ask_57 rfl rfl ?_
    obtain ⟨x28, h29, h⟩ := bnd h
    refine V.getF (gR_F h29) CF10 (Nat.le_of_ble_eq_true rfl) fl_RX10_28 dX10_ask_58 ?_
    obtain ⟨x30, h31, h⟩ := bnd h
    refine V.getFN (gR_F h31) CF8 (Nat.le_of_ble_eq_true rfl) fl_RX10_141 dX10_ask_61 ?_
    refine V.iload dX10_ask_64 rfl ?_
    refine V.iconst dX10_ask_66 ki_2 ?_
    refine V.iload_n dX10_ask_67 rfl rfl ?_
    obtain ⟨p32, h33, h⟩ := bnd h
    have w34 := w_X5_set (g := g) h33
    refine V.callVv (args := [LI p11.1, LI (2 : Int32), LI v3]) (st := []) w34.1 (oo_X5_set h33) mk_X5_set w34.2 vc_5 ml_RX10_103 im_X5_set se_X5_set rfl (Nat.le_of_ble_eq_true rfl) (by decide) rfl (Nat.le_of_ble_eq_true rfl) dX10_ask_68 ?_
    refine V.aload_n dX10_ask_71 rfl rfl ?_
    obtain ⟨x35, h36, h⟩ := bnd h
    refine V.getF (gR_F h36) CF10 (Nat.le_of_ble_eq_true rfl) fl_RX10_28 dX10_ask_72 ?_
    obtain ⟨x37, h38, h⟩ := bnd h
    refine V.getFN (gR_F h38) CF8 (Nat.le_of_ble_eq_true rfl) fl_RX10_141 dX10_ask_75 ?_
    refine V.iload dX10_ask_78 rfl ?_
    refine V.iconst dX10_ask_80 ki_3 ?_
    refine V.iload dX10_ask_81 rfl ?_
    obtain ⟨p39, h40, h⟩ := bnd h
    have w41 := w_X5_set (g := g) h40
    refine V.callVv (args := [LI p11.1, LI (3 : Int32), LI v4]) (st := []) w41.1 (oo_X5_set h40) mk_X5_set w41.2 vc_5 ml_RX10_103 im_X5_set se_X5_set rfl (Nat.le_of_ble_eq_true rfl) (by decide) rfl (Nat.le_of_ble_eq_true rfl) dX10_ask_83 ?_
    refine V.aload_n dX10_ask_86 rfl rfl ?_
    obtain ⟨x42, h43, h⟩ := bnd h
    refine V.getF (gR_F h43) CF10 (Nat.le_of_ble_eq_true rfl) fl_RX10_28 dX10_ask_87 ?_
    obtain ⟨x44, h45, h⟩ := bnd h
    refine V.getFN (gR_F h45) CF8 (Nat.le_of_ble_eq_true rfl) fl_RX10_141 dX10_ask_90 ?_
    refine V.iload dX10_ask_93 rfl ?_
    refine V.iconst dX10_ask_95 ki_4 ?_
    refine V.iconst dX10_ask_96 ki_m1 ?_
    obtain ⟨p46, h47, h⟩ := bnd h
    have w48 := w_X5_set (g := g) h47
    refine V.callVv (args := [LI p11.1, LI (4 : Int32), LI (-1 : Int32)]) (st := []) w48.1 (oo_X5_set h47) mk_X5_set w48.2 vc_5 ml_RX10_103 im_X5_set se_X5_set rfl (Nat.le_of_ble_eq_true rfl) (by decide) rfl (Nat.le_of_ble_eq_true rfl) dX10_ask_97 ?_
    refine V.iload dX10_ask_100 rfl ?_
    obtain rfl := Option.some.inj h
    exact V.ireturn dX10_ask_102
  · have h := (if_pos c6).symm.trans h
    refine V.iconst dX10_ask_15 ki_m1 ?_
    obtain rfl := Option.some.inj h
    exact V.ireturn dX10_ask_16
def f_X10_ask (A : LH) (v0 : Option Nat) (v1 : Int32) (v2 : Int32) (v3 : Int32) (v4 : Int32) : Option (Int32 × LH) := if isO A v0 10 = true then b_X10_ask A v0 v1 v2 v3 v4 else none
theorem w_X10_ask {g : GG} {A : LH} {v0 : Option Nat} {v1 : Int32} {v2 : Int32} {v3 : Int32} {v4 : Int32} {p : Int32 × LH} (h : f_X10_ask A v0 v1 v2 v3 v4 = some p) : Ct g m_X10_ask 3 [LR v0, LI v1, LI v2, LI v3, LI v4] A (some (LI p.1)) p.2 := by
  unfold f_X10_ask at h
  obtain ⟨ho, h⟩ := ifN h
  exact ⟨wb_X10_ask h, rfl⟩
theorem oo_X10_ask {A : LH} {v0 : Option Nat} {v1 : Int32} {v2 : Int32} {v3 : Int32} {v4 : Int32} {p : Int32 × LH} (h : f_X10_ask A v0 v1 v2 v3 v4 = some p) : isO A v0 10 = true := by unfold f_X10_ask at h; exact (ifN h).1
def b_X10_mark (A : LH) (v0 : Option Nat) (v1 : Int32) (v2 : Int32) : Option (Int32 × LH) :=
  (gR A v0 10 2).bind fun x1 => (gR A x1 8 2).bind fun x3 => (f_X5_has A x3 v1).bind fun p5 => if p5 = 0 then some ((0 : Int32), A) else if v2 < (-1 : Int32) then some ((0 : Int32), A) else if v2 ≤ (1 : Int32) then (gR A v0 10 2).bind fun x11 => (gR A x11 8 2).bind fun x13 => (f_X5_set A x13 v1 (4 : Int32) v2).bind fun p15 => some ((1 : Int32), p15) else some ((0 : Int32), A)
set_option maxRecDepth 4000 in
theorem wb_X10_mark {g : GG} {n0 z0 : Nat} {A : LH} {v0 : Option Nat} {v1 : Int32} {v2 : Int32} {p : Int32 × LH} (h : b_X10_mark A v0 v1 v2 = some p) : V g m_X10_mark 3 n0 z0 (some (LI p.1)) p.2 A 0 [some (LR v0), some (LI v1), some (LI v2)] [] := by
  unfold b_X10_mark at h
  refine V.aload_n dX10_mark_0 rfl rfl ?_
  obtain ⟨x1, h2, h⟩ := bnd h
  refine V.getF (gR_F h2) CF10 (Nat.le_of_ble_eq_true rfl) fl_RX10_28 dX10_mark_1 ?_
  obtain ⟨x3, h4, h⟩ := bnd h
  refine V.getFN (gR_F h4) CF8 (Nat.le_of_ble_eq_true rfl) fl_RX10_141 dX10_mark_4 ?_
  refine V.iload_n dX10_mark_7 rfl rfl ?_
  obtain ⟨p5, h6, h⟩ := bnd h
  have w7 := w_X5_has (g := g) h6
  refine V.callVi (args := [LI v1]) (st := []) w7.1 (oo_X5_has h6) mk_X5_has w7.2 vc_5 ml_RX10_110 im_X5_has se_X5_has rfl (Nat.le_of_ble_eq_true rfl) (by decide) rfl (Nat.le_of_ble_eq_true rfl) dX10_mark_8 ?_
  refine V.if_eq (tgt := 24) dX10_mark_11 (by decide) (fun c8 => ?_) (fun c8 => ?_)
  · have h := (if_pos c8).symm.trans h
    refine V.iconst dX10_mark_24 ki_0 ?_
    obtain rfl := Option.some.inj h
    exact V.ireturn dX10_mark_25
  · have h := (if_neg c8).symm.trans h
    refine V.iload_n dX10_mark_14 rfl rfl ?_
    refine V.iconst dX10_mark_15 ki_m1 ?_
    refine V.icmp_lt (tgt := 24) dX10_mark_16 (by decide) (fun c9 => ?_) (fun c9 => ?_)
    · have h := (if_pos c9).symm.trans h
      refine V.iconst dX10_mark_24 ki_0 ?_
      obtain rfl := Option.some.inj h
      exact V.ireturn dX10_mark_25
    · have h := (if_neg c9).symm.trans h
      refine V.iload_n dX10_mark_19 rfl rfl ?_
      refine V.iconst dX10_mark_20 ki_1 ?_
      refine V.icmp_le (tgt := 26) dX10_mark_21 (by decide) (fun c10 => ?_) (fun c10 => ?_)
      · have h := (if_pos c10).symm.trans h
        refine V.aload_n dX10_mark_26 rfl rfl ?_
        obtain ⟨x11, h12, h⟩ := bnd h
        refine V.getF (gR_F h12) CF10 (Nat.le_of_ble_eq_true rfl) fl_RX10_28 dX10_mark_27 ?_
        obtain ⟨x13, h14, h⟩ := bnd h
        refine V.getFN (gR_F h14) CF8 (Nat.le_of_ble_eq_true rfl) fl_RX10_141 dX10_mark_30 ?_
        refine V.iload_n dX10_mark_33 rfl rfl ?_
        refine V.iconst dX10_mark_34 ki_4 ?_
        refine V.iload_n dX10_mark_35 rfl rfl ?_
        obtain ⟨p15, h16, h⟩ := bnd h
        have w17 := w_X5_set (g := g) h16
        refine V.callVv (args := [LI v1, LI (4 : Int32), LI v2]) (st := []) w17.1 (oo_X5_set h16) mk_X5_set w17.2 vc_5 ml_RX10_103 im_X5_set se_X5_set rfl (Nat.le_of_ble_eq_true rfl) (by decide) rfl (Nat.le_of_ble_eq_true rfl) dX10_mark_36 ?_
        refine V.iconst dX10_mark_39 ki_1 ?_
        obtain rfl := Option.some.inj h
        exact V.ireturn dX10_mark_40
      · have h := (if_neg c10).symm.trans h
        refine V.iconst dX10_mark_24 ki_0 ?_
        obtain rfl := Option.some.inj h
        exact V.ireturn dX10_mark_25
def f_X10_mark (A : LH) (v0 : Option Nat) (v1 : Int32) (v2 : Int32) : Option (Int32 × LH) := if isO A v0 10 = true then zc (b_X10_mark A v0 v1 v2) else none
theorem w_X10_mark {g : GG} {A : LH} {v0 : Option Nat} {v1 : Int32} {v2 : Int32} {p : Int32 × LH} (h : f_X10_mark A v0 v1 v2 = some p) : Ct g m_X10_mark 3 [LR v0, LI v1, LI v2] A (some (LI p.1)) p.2 := by
  unfold f_X10_mark at h
  obtain ⟨ho, h⟩ := ifN h
  obtain ⟨h, hz⟩ := zc_sp h
  exact ⟨wb_X10_mark h, (RTz hz)⟩
theorem oo_X10_mark {A : LH} {v0 : Option Nat} {v1 : Int32} {v2 : Int32} {p : Int32 × LH} (h : f_X10_mark A v0 v1 v2 = some p) : isO A v0 10 = true := by unfold f_X10_mark at h; exact (ifN h).1
def b_X10_book (A : LH) (v0 : Option Nat) (v1 : Int32) (v2 : Int32) : Option (Int32) :=
  (gR A v0 10 2).bind fun x1 => (gR A x1 8 2).bind fun x3 => (f_X5_get A x3 v1 v2).bind fun p5 => some p5
set_option maxRecDepth 4000 in
theorem wb_X10_book {g : GG} {n0 z0 : Nat} {A : LH} {v0 : Option Nat} {v1 : Int32} {v2 : Int32} {p : Int32} (h : b_X10_book A v0 v1 v2 = some p) : V g m_X10_book 3 n0 z0 (some (LI p)) A A 0 [some (LR v0), some (LI v1), some (LI v2)] [] := by
  unfold b_X10_book at h
  refine V.aload_n dX10_book_0 rfl rfl ?_
  obtain ⟨x1, h2, h⟩ := bnd h
  refine V.getF (gR_F h2) CF10 (Nat.le_of_ble_eq_true rfl) fl_RX10_28 dX10_book_1 ?_
  obtain ⟨x3, h4, h⟩ := bnd h
  refine V.getFN (gR_F h4) CF8 (Nat.le_of_ble_eq_true rfl) fl_RX10_141 dX10_book_4 ?_
  refine V.iload_n dX10_book_7 rfl rfl ?_
  refine V.iload_n dX10_book_8 rfl rfl ?_
  obtain ⟨p5, h6, h⟩ := bnd h
  have w7 := w_X5_get (g := g) h6
  refine V.callVi (args := [LI v1, LI v2]) (st := []) w7.1 (oo_X5_get h6) mk_X5_get w7.2 vc_5 ml_RX10_117 im_X5_get se_X5_get rfl (Nat.le_of_ble_eq_true rfl) (by decide) rfl (Nat.le_of_ble_eq_true rfl) dX10_book_9 ?_
  obtain rfl := Option.some.inj h
  exact V.ireturn dX10_book_12
def f_X10_book (A : LH) (v0 : Option Nat) (v1 : Int32) (v2 : Int32) : Option (Int32) := if isO A v0 10 = true then b_X10_book A v0 v1 v2 else none
theorem w_X10_book {g : GG} {A : LH} {v0 : Option Nat} {v1 : Int32} {v2 : Int32} {p : Int32} (h : f_X10_book A v0 v1 v2 = some p) : Ct g m_X10_book 3 [LR v0, LI v1, LI v2] A (some (LI p)) A := by
  unfold f_X10_book at h
  obtain ⟨ho, h⟩ := ifN h
  exact ⟨wb_X10_book h, rfl⟩
theorem oo_X10_book {A : LH} {v0 : Option Nat} {v1 : Int32} {v2 : Int32} {p : Int32} (h : f_X10_book A v0 v1 v2 = some p) : isO A v0 10 = true := by unfold f_X10_book at h; exact (ifN h).1
def b_X10_tried_17 (N : Nat) (k17 : LH → Option Nat → Option Nat → Int32 → Int32 → Option (Int32 × LH)) (A : LH) (v0 : Option Nat) (v2 : Option Nat) (v3 : Int32) (v4 : Int32) : Option (Int32 × LH) :=
  (gR A v0 10 2).bind fun x5 => (gR A x5 8 2).bind fun x7 => (gI A x7 5 3).bind fun x9 => if x9 ≤ v4 then some (v3, A) else (gR A v0 10 4).bind fun x12 => (gR A v0 10 2).bind fun x14 => (f_X9_standAtAsk A x12 x14 v4).bind fun p16 => (gR p16 v0 10 4).bind fun x19 => (f_X9_lets N p16 x19 v2).bind fun p21 => if p21.1 = 0 then k17 p21.2 v0 v2 v3 (v4 + (1 : Int32)) else k17 p21.2 v0 v2 (v3 + (1 : Int32)) (v4 + (1 : Int32))
set_option maxRecDepth 4000 in
theorem wb_X10_tried_17 {g : GG} {n0 z0 : Nat} (N : Nat) {k17 : LH → Option Nat → Option Nat → Int32 → Int32 → Option (Int32 × LH)} {A : LH} {v0 : Option Nat} {v2 : Option Nat} {v3 : Int32} {v4 : Int32} {p : Int32 × LH} (hk17 : ∀ {A : LH} {v0 : Option Nat} {v2 : Option Nat} {v3 : Int32} {v4 : Int32} {p : Int32 × LH}, k17 A v0 v2 v3 v4 = some p → V g m_X10_tried 7 n0 z0 (some (LI p.1)) p.2 A 17 [some (LR v0), none, some (LR v2), some (LI v3), some (LI v4)] []) (h : b_X10_tried_17 N k17 A v0 v2 v3 v4 = some p) : V g m_X10_tried 7 n0 z0 (some (LI p.1)) p.2 A 17 [some (LR v0), none, some (LR v2), some (LI v3), some (LI v4)] [] := by
  unfold b_X10_tried_17 at h
  refine V.iload dX10_tried_17 rfl ?_
  refine V.aload_n dX10_tried_19 rfl rfl ?_
  obtain ⟨x5, h6, h⟩ := bnd h
  refine V.getF (gR_F h6) CF10 (Nat.le_of_ble_eq_true rfl) fl_RX10_28 dX10_tried_20 ?_
  obtain ⟨x7, h8, h⟩ := bnd h
  refine V.getFN (gR_F h8) CF8 (Nat.le_of_ble_eq_true rfl) fl_RX10_141 dX10_tried_23 ?_
  obtain ⟨x9, h10, h⟩ := bnd h
  refine V.getFN (gI_F h10) CF5 (Nat.le_of_ble_eq_true rfl) fl_RX10_144 dX10_tried_26 ?_
  refine V.icmp_ge (tgt := 65) dX10_tried_29 (by decide) (fun c11 => ?_) (fun c11 => ?_)
  · have h := (if_pos c11).symm.trans h
    refine V.iload_n dX10_tried_65 rfl rfl ?_
    obtain rfl := Option.some.inj h
    exact V.ireturn dX10_tried_66
  · have h := (if_neg c11).symm.trans h
    refine V.aload_n dX10_tried_32 rfl rfl ?_
    obtain ⟨x12, h13, h⟩ := bnd h
    refine V.getF (gR_F h13) CF10 (Nat.le_of_ble_eq_true rfl) fl_RX10_39 dX10_tried_33 ?_
    refine V.aload_n dX10_tried_36 rfl rfl ?_
    obtain ⟨x14, h15, h⟩ := bnd h
    refine V.getF (gR_F h15) CF10 (Nat.le_of_ble_eq_true rfl) fl_RX10_28 dX10_tried_37 ?_
    refine V.iload dX10_tried_40 rfl ?_
    obtain ⟨p16, h17, h⟩ := bnd h
    have w18 := w_X9_standAtAsk (g := g) h17
    refine V.callVv (args := [LR x14, LI v4]) (st := []) w18.1 (oo_X9_standAtAsk h17) mk_X9_standAtAsk w18.2 vc_9 ml_RX10_147 im_X9_standAtAsk se_X9_standAtAsk rfl (Nat.le_of_ble_eq_true rfl) (by decide) rfl (Nat.le_of_ble_eq_true rfl) dX10_tried_42 ?_
    refine V.aload_n dX10_tried_45 rfl rfl ?_
    obtain ⟨x19, h20, h⟩ := bnd h
    refine V.getF (gR_F h20) CF10 (Nat.le_of_ble_eq_true rfl) fl_RX10_39 dX10_tried_46 ?_
    refine V.aload_n dX10_tried_49 rfl rfl ?_
    obtain ⟨p21, h22, h⟩ := bnd h
    have w23 := w_X9_lets (g := g) N h22
    refine V.callVi (args := [LR v2]) (st := []) w23.1 (oo_X9_lets h22) mk_X9_lets w23.2 vc_9 ml_RX10_137 im_X9_lets se_X9_lets rfl (Nat.le_of_ble_eq_true rfl) (by decide) rfl (Nat.le_of_ble_eq_true rfl) dX10_tried_50 ?_
    refine V.if_eq (tgt := 59) dX10_tried_53 (by decide) (fun c24 => ?_) (fun c24 => ?_)
    · have h := (if_pos c24).symm.trans h
      refine V.iinc (ls' := [some (LR v0), none, some (LR v2), some (LI v3), some (LI (v4 + (1 : Int32)))]) dX10_tried_59 rfl ki_1 (by decide) rfl rfl ?_
      refine V.goto (tgt := 17) dX10_tried_62 (by decide) ?_
      refine V.weak [true, false, true, true, true] ?_
      exact hk17 h
    · have h := (if_neg c24).symm.trans h
      refine V.iinc (ls' := [some (LR v0), none, some (LR v2), some (LI (v3 + (1 : Int32))), some (LI v4)]) dX10_tried_56 rfl ki_1 (by decide) rfl rfl ?_
      refine V.iinc (ls' := [some (LR v0), none, some (LR v2), some (LI (v3 + (1 : Int32))), some (LI (v4 + (1 : Int32)))]) dX10_tried_59 rfl ki_1 (by decide) rfl rfl ?_
      refine V.goto (tgt := 17) dX10_tried_62 (by decide) ?_
      refine V.weak [true, false, true, true, true] ?_
      exact hk17 h
def l_X10_tried_17 (N : Nat) : Nat → LH → Option Nat → Option Nat → Int32 → Int32 → Option (Int32 × LH)
  | 0, _, _, _, _, _ => none
  | n + 1, A, v0, v2, v3, v4 => b_X10_tried_17 N (l_X10_tried_17 N n) A v0 v2 v3 v4
theorem wl_X10_tried_17 {g : GG} {n0 z0 : Nat} (N : Nat) : ∀ (n : Nat) {A : LH} {v0 : Option Nat} {v2 : Option Nat} {v3 : Int32} {v4 : Int32} {p : Int32 × LH}, l_X10_tried_17 N n A v0 v2 v3 v4 = some p → V g m_X10_tried 7 n0 z0 (some (LI p.1)) p.2 A 17 [some (LR v0), none, some (LR v2), some (LI v3), some (LI v4)] []
  | 0, _, _, _, _, _, _, h => nomatch h
  | n + 1, _, _, _, _, _, _, h => wb_X10_tried_17 N (wl_X10_tried_17 N n) h
def b_X10_tried (N : Nat) (A : LH) (v0 : Option Nat) (v1 : Int32) : Option (Int32 × LH) :=
  (f_X10_rulesIn A v0 v1).bind fun p1 => if p1 = none then some ((-1 : Int32), A) else l_X10_tried_17 N N A v0 p1 (0 : Int32) (0 : Int32)
set_option maxRecDepth 4000 in
theorem wb_X10_tried {g : GG} {n0 z0 : Nat} (N : Nat) {A : LH} {v0 : Option Nat} {v1 : Int32} {p : Int32 × LH} (h : b_X10_tried N A v0 v1 = some p) : V g m_X10_tried 7 n0 z0 (some (LI p.1)) p.2 A 0 [some (LR v0), some (LI v1)] [] := by
  unfold b_X10_tried at h
  refine V.aload_n dX10_tried_0 rfl rfl ?_
  refine V.iload_n dX10_tried_1 rfl rfl ?_
  obtain ⟨p1, h2, h⟩ := bnd h
  have w3 := w_X10_rulesIn (g := g) h2
  refine V.callVr (args := [LI v1]) (st := []) w3.1 (oo_X10_rulesIn h2) mk_X10_rulesIn w3.2 vc_10 ml_RX10_121 im_X10_rulesIn se_X10_rulesIn rfl (Nat.le_of_ble_eq_true rfl) (by decide) rfl (Nat.le_of_ble_eq_true rfl) dX10_tried_2 ?_
  refine V.astore_n (ls' := [some (LR v0), some (LI v1), some (LR p1)]) dX10_tried_5 rfl (by decide) rfl rfl ?_
  refine V.aload_n dX10_tried_6 rfl rfl ?_
  refine V.ifnonnull_ (tgt := 12) dX10_tried_7 (by decide) (fun c25 => ?_) (fun c25 => ?_)
  · have h := (if_neg c25).symm.trans h
    refine V.iconst dX10_tried_12 ki_0 ?_
    refine V.istore_n (ls' := [some (LR v0), some (LI v1), some (LR p1), some (LI (0 : Int32))]) dX10_tried_13 rfl (by decide) rfl rfl ?_
    refine V.iconst dX10_tried_14 ki_0 ?_
    refine V.istore (ls' := [some (LR v0), some (LI v1), some (LR p1), some (LI (0 : Int32)), some (LI (0 : Int32))]) dX10_tried_15 (by decide) rfl rfl ?_
    refine V.weak [true, false, true, true, true] ?_
    exact wl_X10_tried_17 N N h
  · have h := (if_pos c25).symm.trans h
    refine V.iconst dX10_tried_10 ki_m1 ?_
    obtain rfl := Option.some.inj h
    exact V.ireturn dX10_tried_11
def f_X10_tried (N : Nat) (A : LH) (v0 : Option Nat) (v1 : Int32) : Option (Int32 × LH) := if isO A v0 10 = true then b_X10_tried N A v0 v1 else none
theorem w_X10_tried {g : GG} (N : Nat) {A : LH} {v0 : Option Nat} {v1 : Int32} {p : Int32 × LH} (h : f_X10_tried N A v0 v1 = some p) : Ct g m_X10_tried 7 [LR v0, LI v1] A (some (LI p.1)) p.2 := by
  unfold f_X10_tried at h
  obtain ⟨ho, h⟩ := ifN h
  exact ⟨wb_X10_tried N h, rfl⟩
theorem oo_X10_tried {N : Nat} {A : LH} {v0 : Option Nat} {v1 : Int32} {p : Int32 × LH} (h : f_X10_tried N A v0 v1 = some p) : isO A v0 10 = true := by unfold f_X10_tried at h; exact (ifN h).1
def b_X10_decides_26 (N : Nat) (k26 : LH → Option Nat → Int32 → Option Nat → Int32 → Int32 → Option (Int32 × LH)) (A : LH) (v0 : Option Nat) (v2 : Int32) (v3 : Option Nat) (v4 : Int32) (v5 : Int32) : Option (Int32 × LH) :=
  (gR A v0 10 2).bind fun x9 => (gR A x9 8 2).bind fun x11 => (gI A x11 5 3).bind fun x13 => if x13 ≤ v5 then some (v4, A) else (gR A v0 10 4).bind fun x16 => (gR A v0 10 2).bind fun x18 => (f_X9_standAtAsk A x16 x18 v5).bind fun p20 => (gR p20 v0 10 4).bind fun x23 => (f_X9_decider N p20 x23 v3).bind fun p25 => if p25.1 = v2 then k26 p25.2 v0 v2 v3 (v4 + (1 : Int32)) (v5 + (1 : Int32)) else k26 p25.2 v0 v2 v3 v4 (v5 + (1 : Int32))
set_option maxRecDepth 4000 in
theorem wb_X10_decides_26 {g : GG} {n0 z0 : Nat} (N : Nat) {k26 : LH → Option Nat → Int32 → Option Nat → Int32 → Int32 → Option (Int32 × LH)} {A : LH} {v0 : Option Nat} {v2 : Int32} {v3 : Option Nat} {v4 : Int32} {v5 : Int32} {p : Int32 × LH} (hk26 : ∀ {A : LH} {v0 : Option Nat} {v2 : Int32} {v3 : Option Nat} {v4 : Int32} {v5 : Int32} {p : Int32 × LH}, k26 A v0 v2 v3 v4 v5 = some p → V g m_X10_decides 6 n0 z0 (some (LI p.1)) p.2 A 26 [some (LR v0), none, some (LI v2), some (LR v3), some (LI v4), some (LI v5)] []) (h : b_X10_decides_26 N k26 A v0 v2 v3 v4 v5 = some p) : V g m_X10_decides 6 n0 z0 (some (LI p.1)) p.2 A 26 [some (LR v0), none, some (LI v2), some (LR v3), some (LI v4), some (LI v5)] [] := by
  unfold b_X10_decides_26 at h
  refine V.iload dX10_decides_26 rfl ?_
  refine V.aload_n dX10_decides_28 rfl rfl ?_
  obtain ⟨x9, h10, h⟩ := bnd h
  refine V.getF (gR_F h10) CF10 (Nat.le_of_ble_eq_true rfl) fl_RX10_28 dX10_decides_29 ?_
  obtain ⟨x11, h12, h⟩ := bnd h
  refine V.getFN (gR_F h12) CF8 (Nat.le_of_ble_eq_true rfl) fl_RX10_141 dX10_decides_32 ?_
  obtain ⟨x13, h14, h⟩ := bnd h
  refine V.getFN (gI_F h14) CF5 (Nat.le_of_ble_eq_true rfl) fl_RX10_144 dX10_decides_35 ?_
  refine V.icmp_ge (tgt := 75) dX10_decides_38 (by decide) (fun c15 => ?_) (fun c15 => ?_)
  · have h := (if_pos c15).symm.trans h
    refine V.iload dX10_decides_75 rfl ?_
    obtain rfl := Option.some.inj h
    exact V.ireturn dX10_decides_77
  · have h := (if_neg c15).symm.trans h
    refine V.aload_n dX10_decides_41 rfl rfl ?_
    obtain ⟨x16, h17, h⟩ := bnd h
    refine V.getF (gR_F h17) CF10 (Nat.le_of_ble_eq_true rfl) fl_RX10_39 dX10_decides_42 ?_
    refine V.aload_n dX10_decides_45 rfl rfl ?_
    obtain ⟨x18, h19, h⟩ := bnd h
    refine V.getF (gR_F h19) CF10 (Nat.le_of_ble_eq_true rfl) fl_RX10_28 dX10_decides_46 ?_
    refine V.iload dX10_decides_49 rfl ?_
    obtain ⟨p20, h21, h⟩ := bnd h
    have w22 := w_X9_standAtAsk (g := g) h21
    refine V.callVv (args := [LR x18, LI v5]) (st := []) w22.1 (oo_X9_standAtAsk h21) mk_X9_standAtAsk w22.2 vc_9 ml_RX10_147 im_X9_standAtAsk se_X9_standAtAsk rfl (Nat.le_of_ble_eq_true rfl) (by decide) rfl (Nat.le_of_ble_eq_true rfl) dX10_decides_51 ?_
    refine V.aload_n dX10_decides_54 rfl rfl ?_
    obtain ⟨x23, h24, h⟩ := bnd h
    refine V.getF (gR_F h24) CF10 (Nat.le_of_ble_eq_true rfl) fl_RX10_39 dX10_decides_55 ?_
    refine V.aload_n dX10_decides_58 rfl rfl ?_
    obtain ⟨p25, h26, h⟩ := bnd h
    have w27 := w_X9_decider (g := g) N h26
    refine V.callVi (args := [LR v3]) (st := []) w27.1 (oo_X9_decider h26) mk_X9_decider w27.2 vc_9 ml_RX10_133 im_X9_decider se_X9_decider rfl (Nat.le_of_ble_eq_true rfl) (by decide) rfl (Nat.le_of_ble_eq_true rfl) dX10_decides_59 ?_
    refine V.iload_n dX10_decides_62 rfl rfl ?_
    refine V.icmp_ne (tgt := 69) dX10_decides_63 (by decide) (fun c28 => ?_) (fun c28 => ?_)
    · have h := (if_neg c28).symm.trans h
      refine V.iinc (ls' := [some (LR v0), none, some (LI v2), some (LR v3), some (LI v4), some (LI (v5 + (1 : Int32)))]) dX10_decides_69 rfl ki_1 (by decide) rfl rfl ?_
      refine V.goto (tgt := 26) dX10_decides_72 (by decide) ?_
      refine V.weak [true, false, true, true, true, true] ?_
      exact hk26 h
    · have h := (if_pos c28).symm.trans h
      refine V.iinc (ls' := [some (LR v0), none, some (LI v2), some (LR v3), some (LI (v4 + (1 : Int32))), some (LI v5)]) dX10_decides_66 rfl ki_1 (by decide) rfl rfl ?_
      refine V.iinc (ls' := [some (LR v0), none, some (LI v2), some (LR v3), some (LI (v4 + (1 : Int32))), some (LI (v5 + (1 : Int32)))]) dX10_decides_69 rfl ki_1 (by decide) rfl rfl ?_
      refine V.goto (tgt := 26) dX10_decides_72 (by decide) ?_
      refine V.weak [true, false, true, true, true, true] ?_
      exact hk26 h
def l_X10_decides_26 (N : Nat) : Nat → LH → Option Nat → Int32 → Option Nat → Int32 → Int32 → Option (Int32 × LH)
  | 0, _, _, _, _, _, _ => none
  | n + 1, A, v0, v2, v3, v4, v5 => b_X10_decides_26 N (l_X10_decides_26 N n) A v0 v2 v3 v4 v5
theorem wl_X10_decides_26 {g : GG} {n0 z0 : Nat} (N : Nat) : ∀ (n : Nat) {A : LH} {v0 : Option Nat} {v2 : Int32} {v3 : Option Nat} {v4 : Int32} {v5 : Int32} {p : Int32 × LH}, l_X10_decides_26 N n A v0 v2 v3 v4 v5 = some p → V g m_X10_decides 6 n0 z0 (some (LI p.1)) p.2 A 26 [some (LR v0), none, some (LI v2), some (LR v3), some (LI v4), some (LI v5)] []
  | 0, _, _, _, _, _, _, _, h => nomatch h
  | n + 1, _, _, _, _, _, _, _, h => wb_X10_decides_26 N (wl_X10_decides_26 N n) h
def b_X10_decides (N : Nat) (A : LH) (v0 : Option Nat) (v1 : Int32) (v2 : Int32) : Option (Int32 × LH) :=
  (f_X10_rulesIn A v0 v1).bind fun p1 => if p1 = none then some ((-1 : Int32), A) else (f_X3_lineAt A p1 v2).bind fun p5 => if p5 = none then some ((-1 : Int32), A) else l_X10_decides_26 N N A v0 v2 p1 (0 : Int32) (0 : Int32)
set_option maxRecDepth 4000 in
theorem wb_X10_decides {g : GG} {n0 z0 : Nat} (N : Nat) {A : LH} {v0 : Option Nat} {v1 : Int32} {v2 : Int32} {p : Int32 × LH} (h : b_X10_decides N A v0 v1 v2 = some p) : V g m_X10_decides 6 n0 z0 (some (LI p.1)) p.2 A 0 [some (LR v0), some (LI v1), some (LI v2)] [] := by
  unfold b_X10_decides at h
  refine V.aload_n dX10_decides_0 rfl rfl ?_
  refine V.iload_n dX10_decides_1 rfl rfl ?_
  obtain ⟨p1, h2, h⟩ := bnd h
  have w3 := w_X10_rulesIn (g := g) h2
  refine V.callVr (args := [LI v1]) (st := []) w3.1 (oo_X10_rulesIn h2) mk_X10_rulesIn w3.2 vc_10 ml_RX10_121 im_X10_rulesIn se_X10_rulesIn rfl (Nat.le_of_ble_eq_true rfl) (by decide) rfl (Nat.le_of_ble_eq_true rfl) dX10_decides_2 ?_
  refine V.astore_n (ls' := [some (LR v0), some (LI v1), some (LI v2), some (LR p1)]) dX10_decides_5 rfl (by decide) rfl rfl ?_
  refine V.aload_n dX10_decides_6 rfl rfl ?_
  refine V.ifnull_ (tgt := 18) dX10_decides_7 (by decide) (fun c30 => ?_) (fun c30 => ?_)
  · have h := (if_pos c30).symm.trans h
    refine V.iconst dX10_decides_18 ki_m1 ?_
    obtain rfl := Option.some.inj h
    exact V.ireturn dX10_decides_19
  · have h := (if_neg c30).symm.trans h
    refine V.aload_n dX10_decides_10 rfl rfl ?_
    refine V.iload_n dX10_decides_11 rfl rfl ?_
    obtain ⟨p5, h6, h⟩ := bnd h
    have w7 := w_X3_lineAt (g := g) h6
    refine V.callVr (args := [LI v2]) (st := []) w7.1 (oo_X3_lineAt h6) mk_X3_lineAt w7.2 vc_3 ml_RX10_151 im_X3_lineAt se_X3_lineAt rfl (Nat.le_of_ble_eq_true rfl) (by decide) rfl (Nat.le_of_ble_eq_true rfl) dX10_decides_12 ?_
    refine V.ifnonnull_ (tgt := 20) dX10_decides_15 (by decide) (fun c29 => ?_) (fun c29 => ?_)
    · have h := (if_neg c29).symm.trans h
      refine V.iconst dX10_decides_20 ki_0 ?_
      refine V.istore (ls' := [some (LR v0), some (LI v1), some (LI v2), some (LR p1), some (LI (0 : Int32))]) dX10_decides_21 (by decide) rfl rfl ?_
      refine V.iconst dX10_decides_23 ki_0 ?_
      refine V.istore (ls' := [some (LR v0), some (LI v1), some (LI v2), some (LR p1), some (LI (0 : Int32)), some (LI (0 : Int32))]) dX10_decides_24 (by decide) rfl rfl ?_
      refine V.weak [true, false, true, true, true, true] ?_
      exact wl_X10_decides_26 N N h
    · have h := (if_pos c29).symm.trans h
      refine V.iconst dX10_decides_18 ki_m1 ?_
      obtain rfl := Option.some.inj h
      exact V.ireturn dX10_decides_19
def f_X10_decides (N : Nat) (A : LH) (v0 : Option Nat) (v1 : Int32) (v2 : Int32) : Option (Int32 × LH) := if isO A v0 10 = true then b_X10_decides N A v0 v1 v2 else none
theorem w_X10_decides {g : GG} (N : Nat) {A : LH} {v0 : Option Nat} {v1 : Int32} {v2 : Int32} {p : Int32 × LH} (h : f_X10_decides N A v0 v1 v2 = some p) : Ct g m_X10_decides 6 [LR v0, LI v1, LI v2] A (some (LI p.1)) p.2 := by
  unfold f_X10_decides at h
  obtain ⟨ho, h⟩ := ifN h
  exact ⟨wb_X10_decides N h, rfl⟩
theorem oo_X10_decides {N : Nat} {A : LH} {v0 : Option Nat} {v1 : Int32} {v2 : Int32} {p : Int32 × LH} (h : f_X10_decides N A v0 v1 v2 = some p) : isO A v0 10 = true := by unfold f_X10_decides at h; exact (ifN h).1
def b_X10_lost_36 (N : Nat) (k36 : LH → Option Nat → Int32 → Option Nat → Option Nat → Int32 → Int32 → Option (Int32 × LH)) (A : LH) (v0 : Option Nat) (v3 : Int32) (v4 : Option Nat) (v5 : Option Nat) (v6 : Int32) (v7 : Int32) : Option (Int32 × LH) :=
  (gR A v0 10 2).bind fun x10 => (gR A x10 8 2).bind fun x12 => (gI A x12 5 3).bind fun x14 => if x14 ≤ v7 then some ((-1 : Int32), A) else (gR A v0 10 4).bind fun x17 => (gR A v0 10 2).bind fun x19 => (f_X9_standAtAsk A x17 x19 v7).bind fun p21 => (gR p21 v0 10 4).bind fun x24 => (f_X9_lets N p21 x24 v4).bind fun p26 => if p26.1 = 0 then k36 p26.2 v0 v3 v4 v5 v6 (v7 + (1 : Int32)) else (gR p26.2 v0 10 4).bind fun x30 => (f_X9_lets N p26.2 x30 v5).bind fun p32 => if p32.1 = 0 then if v6 = v3 then some (v7, p32.2) else k36 p32.2 v0 v3 v4 v5 (v6 + (1 : Int32)) (v7 + (1 : Int32)) else k36 p32.2 v0 v3 v4 v5 v6 (v7 + (1 : Int32))
set_option maxRecDepth 4000 in
theorem wb_X10_lost_36 {g : GG} {n0 z0 : Nat} (N : Nat) {k36 : LH → Option Nat → Int32 → Option Nat → Option Nat → Int32 → Int32 → Option (Int32 × LH)} {A : LH} {v0 : Option Nat} {v3 : Int32} {v4 : Option Nat} {v5 : Option Nat} {v6 : Int32} {v7 : Int32} {p : Int32 × LH} (hk36 : ∀ {A : LH} {v0 : Option Nat} {v3 : Int32} {v4 : Option Nat} {v5 : Option Nat} {v6 : Int32} {v7 : Int32} {p : Int32 × LH}, k36 A v0 v3 v4 v5 v6 v7 = some p → V g m_X10_lost 7 n0 z0 (some (LI p.1)) p.2 A 36 [some (LR v0), none, none, some (LI v3), some (LR v4), some (LR v5), some (LI v6), some (LI v7)] []) (h : b_X10_lost_36 N k36 A v0 v3 v4 v5 v6 v7 = some p) : V g m_X10_lost 7 n0 z0 (some (LI p.1)) p.2 A 36 [some (LR v0), none, none, some (LI v3), some (LR v4), some (LR v5), some (LI v6), some (LI v7)] [] := by
  unfold b_X10_lost_36 at h
  refine V.iload dX10_lost_36 rfl ?_
  refine V.aload_n dX10_lost_38 rfl rfl ?_
  obtain ⟨x10, h11, h⟩ := bnd h
  refine V.getF (gR_F h11) CF10 (Nat.le_of_ble_eq_true rfl) fl_RX10_28 dX10_lost_39 ?_
  obtain ⟨x12, h13, h⟩ := bnd h
  refine V.getFN (gR_F h13) CF8 (Nat.le_of_ble_eq_true rfl) fl_RX10_141 dX10_lost_42 ?_
  obtain ⟨x14, h15, h⟩ := bnd h
  refine V.getFN (gI_F h15) CF5 (Nat.le_of_ble_eq_true rfl) fl_RX10_144 dX10_lost_45 ?_
  refine V.icmp_ge (tgt := 106) dX10_lost_48 (by decide) (fun c16 => ?_) (fun c16 => ?_)
  · have h := (if_pos c16).symm.trans h
    refine V.iconst dX10_lost_106 ki_m1 ?_
    obtain rfl := Option.some.inj h
    exact V.ireturn dX10_lost_107
  · have h := (if_neg c16).symm.trans h
    refine V.aload_n dX10_lost_51 rfl rfl ?_
    obtain ⟨x17, h18, h⟩ := bnd h
    refine V.getF (gR_F h18) CF10 (Nat.le_of_ble_eq_true rfl) fl_RX10_39 dX10_lost_52 ?_
    refine V.aload_n dX10_lost_55 rfl rfl ?_
    obtain ⟨x19, h20, h⟩ := bnd h
    refine V.getF (gR_F h20) CF10 (Nat.le_of_ble_eq_true rfl) fl_RX10_28 dX10_lost_56 ?_
    refine V.iload dX10_lost_59 rfl ?_
    obtain ⟨p21, h22, h⟩ := bnd h
    have w23 := w_X9_standAtAsk (g := g) h22
    refine V.callVv (args := [LR x19, LI v7]) (st := []) w23.1 (oo_X9_standAtAsk h22) mk_X9_standAtAsk w23.2 vc_9 ml_RX10_147 im_X9_standAtAsk se_X9_standAtAsk rfl (Nat.le_of_ble_eq_true rfl) (by decide) rfl (Nat.le_of_ble_eq_true rfl) dX10_lost_61 ?_
    refine V.aload_n dX10_lost_64 rfl rfl ?_
    obtain ⟨x24, h25, h⟩ := bnd h
    refine V.getF (gR_F h25) CF10 (Nat.le_of_ble_eq_true rfl) fl_RX10_39 dX10_lost_65 ?_
    refine V.aload dX10_lost_68 rfl ?_
    obtain ⟨p26, h27, h⟩ := bnd h
    have w28 := w_X9_lets (g := g) N h27
    refine V.callVi (args := [LR v4]) (st := []) w28.1 (oo_X9_lets h27) mk_X9_lets w28.2 vc_9 ml_RX10_137 im_X9_lets se_X9_lets rfl (Nat.le_of_ble_eq_true rfl) (by decide) rfl (Nat.le_of_ble_eq_true rfl) dX10_lost_70 ?_
    refine V.if_eq (tgt := 100) dX10_lost_73 (by decide) (fun c29 => ?_) (fun c29 => ?_)
    · have h := (if_pos c29).symm.trans h
      refine V.iinc (ls' := [some (LR v0), none, none, some (LI v3), some (LR v4), some (LR v5), some (LI v6), some (LI (v7 + (1 : Int32)))]) dX10_lost_100 rfl ki_1 (by decide) rfl rfl ?_
      refine V.goto (tgt := 36) dX10_lost_103 (by decide) ?_
      refine V.weak [true, false, false, true, true, true, true, true] ?_
      exact hk36 h
    · have h := (if_neg c29).symm.trans h
      refine V.aload_n dX10_lost_76 rfl rfl ?_
      obtain ⟨x30, h31, h⟩ := bnd h
      refine V.getF (gR_F h31) CF10 (Nat.le_of_ble_eq_true rfl) fl_RX10_39 dX10_lost_77 ?_
      refine V.aload dX10_lost_80 rfl ?_
      obtain ⟨p32, h33, h⟩ := bnd h
      have w34 := w_X9_lets (g := g) N h33
      refine V.callVi (args := [LR v5]) (st := []) w34.1 (oo_X9_lets h33) mk_X9_lets w34.2 vc_9 ml_RX10_137 im_X9_lets se_X9_lets rfl (Nat.le_of_ble_eq_true rfl) (by decide) rfl (Nat.le_of_ble_eq_true rfl) dX10_lost_82 ?_
      refine V.if_ne (tgt := 100) dX10_lost_85 (by decide) (fun c35 => ?_) (fun c35 => ?_)
      · have h := (if_neg c35).symm.trans h
        refine V.iinc (ls' := [some (LR v0), none, none, some (LI v3), some (LR v4), some (LR v5), some (LI v6), some (LI (v7 + (1 : Int32)))]) dX10_lost_100 rfl ki_1 (by decide) rfl rfl ?_
        refine V.goto (tgt := 36) dX10_lost_103 (by decide) ?_
        refine V.weak [true, false, false, true, true, true, true, true] ?_
        exact hk36 h
      · have h := (if_pos c35).symm.trans h
        refine V.iload dX10_lost_88 rfl ?_
        refine V.iload_n dX10_lost_90 rfl rfl ?_
        refine V.icmp_ne (tgt := 97) dX10_lost_91 (by decide) (fun c36 => ?_) (fun c36 => ?_)
        · have h := (if_neg c36).symm.trans h
          refine V.iinc (ls' := [some (LR v0), none, none, some (LI v3), some (LR v4), some (LR v5), some (LI (v6 + (1 : Int32))), some (LI v7)]) dX10_lost_97 rfl ki_1 (by decide) rfl rfl ?_
          refine V.iinc (ls' := [some (LR v0), none, none, some (LI v3), some (LR v4), some (LR v5), some (LI (v6 + (1 : Int32))), some (LI (v7 + (1 : Int32)))]) dX10_lost_100 rfl ki_1 (by decide) rfl rfl ?_
          refine V.goto (tgt := 36) dX10_lost_103 (by decide) ?_
          refine V.weak [true, false, false, true, true, true, true, true] ?_
          exact hk36 h
        · have h := (if_pos c36).symm.trans h
          refine V.iload dX10_lost_94 rfl ?_
          obtain rfl := Option.some.inj h
          exact V.ireturn dX10_lost_96
def l_X10_lost_36 (N : Nat) : Nat → LH → Option Nat → Int32 → Option Nat → Option Nat → Int32 → Int32 → Option (Int32 × LH)
  | 0, _, _, _, _, _, _, _ => none
  | n + 1, A, v0, v3, v4, v5, v6, v7 => b_X10_lost_36 N (l_X10_lost_36 N n) A v0 v3 v4 v5 v6 v7
theorem wl_X10_lost_36 {g : GG} {n0 z0 : Nat} (N : Nat) : ∀ (n : Nat) {A : LH} {v0 : Option Nat} {v3 : Int32} {v4 : Option Nat} {v5 : Option Nat} {v6 : Int32} {v7 : Int32} {p : Int32 × LH}, l_X10_lost_36 N n A v0 v3 v4 v5 v6 v7 = some p → V g m_X10_lost 7 n0 z0 (some (LI p.1)) p.2 A 36 [some (LR v0), none, none, some (LI v3), some (LR v4), some (LR v5), some (LI v6), some (LI v7)] []
  | 0, _, _, _, _, _, _, _, _, h => nomatch h
  | n + 1, _, _, _, _, _, _, _, _, h => wb_X10_lost_36 N (wl_X10_lost_36 N n) h
def b_X10_lost (N : Nat) (A : LH) (v0 : Option Nat) (v1 : Int32) (v2 : Int32) (v3 : Int32) : Option (Int32 × LH) :=
  (f_X10_rulesIn A v0 v1).bind fun p1 => (f_X10_rulesIn A v0 v2).bind fun p4 => if p1 = none then some ((-1 : Int32), A) else if p4 = none then some ((-1 : Int32), A) else if 0 ≤ v3 then l_X10_lost_36 N N A v0 v3 p1 p4 (0 : Int32) (0 : Int32) else some ((-1 : Int32), A)
set_option maxRecDepth 4000 in
theorem wb_X10_lost {g : GG} {n0 z0 : Nat} (N : Nat) {A : LH} {v0 : Option Nat} {v1 : Int32} {v2 : Int32} {v3 : Int32} {p : Int32 × LH} (h : b_X10_lost N A v0 v1 v2 v3 = some p) : V g m_X10_lost 7 n0 z0 (some (LI p.1)) p.2 A 0 [some (LR v0), some (LI v1), some (LI v2), some (LI v3)] [] := by
  unfold b_X10_lost at h
  refine V.aload_n dX10_lost_0 rfl rfl ?_
  refine V.iload_n dX10_lost_1 rfl rfl ?_
  obtain ⟨p1, h2, h⟩ := bnd h
  have w3 := w_X10_rulesIn (g := g) h2
  refine V.callVr (args := [LI v1]) (st := []) w3.1 (oo_X10_rulesIn h2) mk_X10_rulesIn w3.2 vc_10 ml_RX10_121 im_X10_rulesIn se_X10_rulesIn rfl (Nat.le_of_ble_eq_true rfl) (by decide) rfl (Nat.le_of_ble_eq_true rfl) dX10_lost_2 ?_
  refine V.astore (ls' := [some (LR v0), some (LI v1), some (LI v2), some (LI v3), some (LR p1)]) dX10_lost_5 (by decide) rfl rfl ?_
  refine V.aload_n dX10_lost_7 rfl rfl ?_
  refine V.iload_n dX10_lost_8 rfl rfl ?_
  obtain ⟨p4, h5, h⟩ := bnd h
  have w6 := w_X10_rulesIn (g := g) h5
  refine V.callVr (args := [LI v2]) (st := []) w6.1 (oo_X10_rulesIn h5) mk_X10_rulesIn w6.2 vc_10 ml_RX10_121 im_X10_rulesIn se_X10_rulesIn rfl (Nat.le_of_ble_eq_true rfl) (by decide) rfl (Nat.le_of_ble_eq_true rfl) dX10_lost_9 ?_
  refine V.astore (ls' := [some (LR v0), some (LI v1), some (LI v2), some (LI v3), some (LR p1), some (LR p4)]) dX10_lost_12 (by decide) rfl rfl ?_
  refine V.aload dX10_lost_14 rfl ?_
  refine V.ifnull_ (tgt := 28) dX10_lost_16 (by decide) (fun c38 => ?_) (fun c38 => ?_)
  · have h := (if_pos c38).symm.trans h
    refine V.iconst dX10_lost_28 ki_m1 ?_
    obtain rfl := Option.some.inj h
    exact V.ireturn dX10_lost_29
  · have h := (if_neg c38).symm.trans h
    refine V.aload dX10_lost_19 rfl ?_
    refine V.ifnull_ (tgt := 28) dX10_lost_21 (by decide) (fun c37 => ?_) (fun c37 => ?_)
    · have h := (if_pos c37).symm.trans h
      refine V.iconst dX10_lost_28 ki_m1 ?_
      obtain rfl := Option.some.inj h
      exact V.ireturn dX10_lost_29
    · have h := (if_neg c37).symm.trans h
      refine V.iload_n dX10_lost_24 rfl rfl ?_
      refine V.if_ge (tgt := 30) dX10_lost_25 (by decide) (fun c9 => ?_) (fun c9 => ?_)
      · have h := (if_pos c9).symm.trans h
        refine V.iconst dX10_lost_30 ki_0 ?_
        refine V.istore (ls' := [some (LR v0), some (LI v1), some (LI v2), some (LI v3), some (LR p1), some (LR p4), some (LI (0 : Int32))]) dX10_lost_31 (by decide) rfl rfl ?_
        refine V.iconst dX10_lost_33 ki_0 ?_
        refine V.istore (ls' := [some (LR v0), some (LI v1), some (LI v2), some (LI v3), some (LR p1), some (LR p4), some (LI (0 : Int32)), some (LI (0 : Int32))]) dX10_lost_34 (by decide) rfl rfl ?_
        refine V.weak [true, false, false, true, true, true, true, true] ?_
        exact wl_X10_lost_36 N N h
      · have h := (if_neg c9).symm.trans h
        refine V.iconst dX10_lost_28 ki_m1 ?_
        obtain rfl := Option.some.inj h
        exact V.ireturn dX10_lost_29
def f_X10_lost (N : Nat) (A : LH) (v0 : Option Nat) (v1 : Int32) (v2 : Int32) (v3 : Int32) : Option (Int32 × LH) := if isO A v0 10 = true then b_X10_lost N A v0 v1 v2 v3 else none
theorem w_X10_lost {g : GG} (N : Nat) {A : LH} {v0 : Option Nat} {v1 : Int32} {v2 : Int32} {v3 : Int32} {p : Int32 × LH} (h : f_X10_lost N A v0 v1 v2 v3 = some p) : Ct g m_X10_lost 7 [LR v0, LI v1, LI v2, LI v3] A (some (LI p.1)) p.2 := by
  unfold f_X10_lost at h
  obtain ⟨ho, h⟩ := ifN h
  exact ⟨wb_X10_lost N h, rfl⟩
theorem oo_X10_lost {N : Nat} {A : LH} {v0 : Option Nat} {v1 : Int32} {v2 : Int32} {v3 : Int32} {p : Int32 × LH} (h : f_X10_lost N A v0 v1 v2 v3 = some p) : isO A v0 10 = true := by unfold f_X10_lost at h; exact (ifN h).1
def b_X10_idle_32 (N : Nat) (k32 : LH → Option Nat → Int32 → Option Nat → Int32 → Int32 → Option (Int32 × LH)) (A : LH) (v0 : Option Nat) (v2 : Int32) (v3 : Option Nat) (v4 : Int32) (v5 : Int32) : Option (Int32 × LH) :=
  if v4 ≤ v5 then some ((1 : Int32), A) else (gR A v0 10 4).bind fun x15 => (gR A v0 10 2).bind fun x17 => (f_X9_standAtCase A x15 x17 v5).bind fun p19 => (gR p19 v0 10 4).bind fun x22 => (f_X9_hoursDecided N p19 x22 v3 v2).bind fun p24 => if p24.1 = 0 then k32 p24.2 v0 v2 v3 v4 (v5 + (1 : Int32)) else some ((0 : Int32), p24.2)
set_option maxRecDepth 4000 in
theorem wb_X10_idle_32 {g : GG} {n0 z0 : Nat} (N : Nat) {k32 : LH → Option Nat → Int32 → Option Nat → Int32 → Int32 → Option (Int32 × LH)} {A : LH} {v0 : Option Nat} {v2 : Int32} {v3 : Option Nat} {v4 : Int32} {v5 : Int32} {p : Int32 × LH} (hk32 : ∀ {A : LH} {v0 : Option Nat} {v2 : Int32} {v3 : Option Nat} {v4 : Int32} {v5 : Int32} {p : Int32 × LH}, k32 A v0 v2 v3 v4 v5 = some p → V g m_X10_idle 6 n0 z0 (some (LI p.1)) p.2 A 32 [some (LR v0), none, some (LI v2), some (LR v3), some (LI v4), some (LI v5)] []) (h : b_X10_idle_32 N k32 A v0 v2 v3 v4 v5 = some p) : V g m_X10_idle 6 n0 z0 (some (LI p.1)) p.2 A 32 [some (LR v0), none, some (LI v2), some (LR v3), some (LI v4), some (LI v5)] [] := by
  unfold b_X10_idle_32 at h
  refine V.iload dX10_idle_32 rfl ?_
  refine V.iload dX10_idle_34 rfl ?_
  refine V.icmp_ge (tgt := 72) dX10_idle_36 (by decide) (fun c14 => ?_) (fun c14 => ?_)
  · have h := (if_pos c14).symm.trans h
    refine V.iconst dX10_idle_72 ki_1 ?_
    obtain rfl := Option.some.inj h
    exact V.ireturn dX10_idle_73
  · have h := (if_neg c14).symm.trans h
    refine V.aload_n dX10_idle_39 rfl rfl ?_
    obtain ⟨x15, h16, h⟩ := bnd h
    refine V.getF (gR_F h16) CF10 (Nat.le_of_ble_eq_true rfl) fl_RX10_39 dX10_idle_40 ?_
    refine V.aload_n dX10_idle_43 rfl rfl ?_
    obtain ⟨x17, h18, h⟩ := bnd h
    refine V.getF (gR_F h18) CF10 (Nat.le_of_ble_eq_true rfl) fl_RX10_28 dX10_idle_44 ?_
    refine V.iload dX10_idle_47 rfl ?_
    obtain ⟨p19, h20, h⟩ := bnd h
    have w21 := w_X9_standAtCase (g := g) h20
    refine V.callVv (args := [LR x17, LI v5]) (st := []) w21.1 (oo_X9_standAtCase h20) mk_X9_standAtCase w21.2 vc_9 ml_RX10_158 im_X9_standAtCase se_X9_standAtCase rfl (Nat.le_of_ble_eq_true rfl) (by decide) rfl (Nat.le_of_ble_eq_true rfl) dX10_idle_49 ?_
    refine V.aload_n dX10_idle_52 rfl rfl ?_
    obtain ⟨x22, h23, h⟩ := bnd h
    refine V.getF (gR_F h23) CF10 (Nat.le_of_ble_eq_true rfl) fl_RX10_39 dX10_idle_53 ?_
    refine V.aload_n dX10_idle_56 rfl rfl ?_
    refine V.iload_n dX10_idle_57 rfl rfl ?_
    obtain ⟨p24, h25, h⟩ := bnd h
    have w26 := w_X9_hoursDecided (g := g) N h25
    refine V.callVi (args := [LR v3, LI v2]) (st := []) w26.1 (oo_X9_hoursDecided h25) mk_X9_hoursDecided w26.2 vc_9 ml_RX10_161 im_X9_hoursDecided se_X9_hoursDecided rfl (Nat.le_of_ble_eq_true rfl) (by decide) rfl (Nat.le_of_ble_eq_true rfl) dX10_idle_58 ?_
    refine V.if_eq (tgt := 66) dX10_idle_61 (by decide) (fun c27 => ?_) (fun c27 => ?_)
    · have h := (if_pos c27).symm.trans h
      refine V.iinc (ls' := [some (LR v0), none, some (LI v2), some (LR v3), some (LI v4), some (LI (v5 + (1 : Int32)))]) dX10_idle_66 rfl ki_1 (by decide) rfl rfl ?_
      refine V.goto (tgt := 32) dX10_idle_69 (by decide) ?_
      refine V.weak [true, false, true, true, true, true] ?_
      exact hk32 h
    · have h := (if_neg c27).symm.trans h
      refine V.iconst dX10_idle_64 ki_0 ?_
      obtain rfl := Option.some.inj h
      exact V.ireturn dX10_idle_65
def l_X10_idle_32 (N : Nat) : Nat → LH → Option Nat → Int32 → Option Nat → Int32 → Int32 → Option (Int32 × LH)
  | 0, _, _, _, _, _, _ => none
  | n + 1, A, v0, v2, v3, v4, v5 => b_X10_idle_32 N (l_X10_idle_32 N n) A v0 v2 v3 v4 v5
theorem wl_X10_idle_32 {g : GG} {n0 z0 : Nat} (N : Nat) : ∀ (n : Nat) {A : LH} {v0 : Option Nat} {v2 : Int32} {v3 : Option Nat} {v4 : Int32} {v5 : Int32} {p : Int32 × LH}, l_X10_idle_32 N n A v0 v2 v3 v4 v5 = some p → V g m_X10_idle 6 n0 z0 (some (LI p.1)) p.2 A 32 [some (LR v0), none, some (LI v2), some (LR v3), some (LI v4), some (LI v5)] []
  | 0, _, _, _, _, _, _, _, h => nomatch h
  | n + 1, _, _, _, _, _, _, _, h => wb_X10_idle_32 N (wl_X10_idle_32 N n) h
def b_X10_idle (N : Nat) (A : LH) (v0 : Option Nat) (v1 : Int32) (v2 : Int32) : Option (Int32 × LH) :=
  (f_X10_rulesIn A v0 v1).bind fun p1 => if p1 = none then some ((0 : Int32), A) else (f_X3_lineAt A p1 v2).bind fun p5 => if p5 = none then some ((0 : Int32), A) else (gR A v0 10 2).bind fun x9 => (f_X8_cases A x9).bind fun p11 => l_X10_idle_32 N N A v0 v2 p1 p11 (0 : Int32)
set_option maxRecDepth 4000 in
theorem wb_X10_idle {g : GG} {n0 z0 : Nat} (N : Nat) {A : LH} {v0 : Option Nat} {v1 : Int32} {v2 : Int32} {p : Int32 × LH} (h : b_X10_idle N A v0 v1 v2 = some p) : V g m_X10_idle 6 n0 z0 (some (LI p.1)) p.2 A 0 [some (LR v0), some (LI v1), some (LI v2)] [] := by
  unfold b_X10_idle at h
  refine V.aload_n dX10_idle_0 rfl rfl ?_
  refine V.iload_n dX10_idle_1 rfl rfl ?_
  obtain ⟨p1, h2, h⟩ := bnd h
  have w3 := w_X10_rulesIn (g := g) h2
  refine V.callVr (args := [LI v1]) (st := []) w3.1 (oo_X10_rulesIn h2) mk_X10_rulesIn w3.2 vc_10 ml_RX10_121 im_X10_rulesIn se_X10_rulesIn rfl (Nat.le_of_ble_eq_true rfl) (by decide) rfl (Nat.le_of_ble_eq_true rfl) dX10_idle_2 ?_
  refine V.astore_n (ls' := [some (LR v0), some (LI v1), some (LI v2), some (LR p1)]) dX10_idle_5 rfl (by decide) rfl rfl ?_
  refine V.aload_n dX10_idle_6 rfl rfl ?_
  refine V.ifnull_ (tgt := 18) dX10_idle_7 (by decide) (fun c29 => ?_) (fun c29 => ?_)
  · have h := (if_pos c29).symm.trans h
    refine V.iconst dX10_idle_18 ki_0 ?_
    obtain rfl := Option.some.inj h
    exact V.ireturn dX10_idle_19
  · have h := (if_neg c29).symm.trans h
    refine V.aload_n dX10_idle_10 rfl rfl ?_
    refine V.iload_n dX10_idle_11 rfl rfl ?_
    obtain ⟨p5, h6, h⟩ := bnd h
    have w7 := w_X3_lineAt (g := g) h6
    refine V.callVr (args := [LI v2]) (st := []) w7.1 (oo_X3_lineAt h6) mk_X3_lineAt w7.2 vc_3 ml_RX10_151 im_X3_lineAt se_X3_lineAt rfl (Nat.le_of_ble_eq_true rfl) (by decide) rfl (Nat.le_of_ble_eq_true rfl) dX10_idle_12 ?_
    refine V.ifnonnull_ (tgt := 20) dX10_idle_15 (by decide) (fun c28 => ?_) (fun c28 => ?_)
    · have h := (if_neg c28).symm.trans h
      refine V.aload_n dX10_idle_20 rfl rfl ?_
      obtain ⟨x9, h10, h⟩ := bnd h
      refine V.getF (gR_F h10) CF10 (Nat.le_of_ble_eq_true rfl) fl_RX10_28 dX10_idle_21 ?_
      obtain ⟨p11, h12, h⟩ := bnd h
      have w13 := w_X8_cases (g := g) h12
      refine V.callVi (args := []) (st := []) w13.1 (oo_X8_cases h12) mk_X8_cases w13.2 vc_8 ml_RX10_155 im_X8_cases se_X8_cases rfl (Nat.le_of_ble_eq_true rfl) (by decide) rfl (Nat.le_of_ble_eq_true rfl) dX10_idle_24 ?_
      refine V.istore (ls' := [some (LR v0), some (LI v1), some (LI v2), some (LR p1), some (LI p11)]) dX10_idle_27 (by decide) rfl rfl ?_
      refine V.iconst dX10_idle_29 ki_0 ?_
      refine V.istore (ls' := [some (LR v0), some (LI v1), some (LI v2), some (LR p1), some (LI p11), some (LI (0 : Int32))]) dX10_idle_30 (by decide) rfl rfl ?_
      refine V.weak [true, false, true, true, true, true] ?_
      exact wl_X10_idle_32 N N h
    · have h := (if_pos c28).symm.trans h
      refine V.iconst dX10_idle_18 ki_0 ?_
      obtain rfl := Option.some.inj h
      exact V.ireturn dX10_idle_19
def f_X10_idle (N : Nat) (A : LH) (v0 : Option Nat) (v1 : Int32) (v2 : Int32) : Option (Int32 × LH) := if isO A v0 10 = true then zc (b_X10_idle N A v0 v1 v2) else none
theorem w_X10_idle {g : GG} (N : Nat) {A : LH} {v0 : Option Nat} {v1 : Int32} {v2 : Int32} {p : Int32 × LH} (h : f_X10_idle N A v0 v1 v2 = some p) : Ct g m_X10_idle 6 [LR v0, LI v1, LI v2] A (some (LI p.1)) p.2 := by
  unfold f_X10_idle at h
  obtain ⟨ho, h⟩ := ifN h
  obtain ⟨h, hz⟩ := zc_sp h
  exact ⟨wb_X10_idle N h, (RTz hz)⟩
theorem oo_X10_idle {N : Nat} {A : LH} {v0 : Option Nat} {v1 : Int32} {v2 : Int32} {p : Int32 × LH} (h : f_X10_idle N A v0 v1 v2 = some p) : isO A v0 10 = true := by unfold f_X10_idle at h; exact (ifN h).1
def b_X10_more_39 (N : Nat) (k39 : LH → Option Nat → Option Nat → Option Nat → Int32 → Int32 → Int32 → Option (Int32 × LH)) (A : LH) (v0 : Option Nat) (v3 : Option Nat) (v4 : Option Nat) (v5 : Int32) (v6 : Int32) (v7 : Int32) : Option (Int32 × LH) :=
  if v6 ≤ v7 then some (v5, A) else (gR A v0 10 4).bind fun x15 => (gR A v0 10 2).bind fun x17 => (f_X9_standAtCase A x15 x17 v7).bind fun p19 => (gR p19 v0 10 4).bind fun x22 => (f_X9_hoursLet N p19 x22 v3).bind fun p24 => (gR p24.2 v0 10 4).bind fun x27 => (f_X9_hoursLet N p24.2 x27 v4).bind fun p29 => (f_J6_bitCount_0f7a4 (p24.1 &&& (p29.1 ^^^ (-1 : Int32)))).bind fun p32 => k39 p29.2 v0 v3 v4 (v5 + p32) v6 (v7 + (1 : Int32))
set_option maxRecDepth 4000 in
theorem wb_X10_more_39 {g : GG} {n0 z0 : Nat} (N : Nat) {k39 : LH → Option Nat → Option Nat → Option Nat → Int32 → Int32 → Int32 → Option (Int32 × LH)} {A : LH} {v0 : Option Nat} {v3 : Option Nat} {v4 : Option Nat} {v5 : Int32} {v6 : Int32} {v7 : Int32} {p : Int32 × LH} (hk39 : ∀ {A : LH} {v0 : Option Nat} {v3 : Option Nat} {v4 : Option Nat} {v5 : Int32} {v6 : Int32} {v7 : Int32} {p : Int32 × LH}, k39 A v0 v3 v4 v5 v6 v7 = some p → V g m_X10_more 6 n0 z0 (some (LI p.1)) p.2 A 39 [some (LR v0), none, none, some (LR v3), some (LR v4), some (LI v5), some (LI v6), some (LI v7)] []) (h : b_X10_more_39 N k39 A v0 v3 v4 v5 v6 v7 = some p) : V g m_X10_more 6 n0 z0 (some (LI p.1)) p.2 A 39 [some (LR v0), none, none, some (LR v3), some (LR v4), some (LI v5), some (LI v6), some (LI v7)] [] := by
  unfold b_X10_more_39 at h
  refine V.iload dX10_more_39 rfl ?_
  refine V.iload dX10_more_41 rfl ?_
  refine V.icmp_ge (tgt := 93) dX10_more_43 (by decide) (fun c14 => ?_) (fun c14 => ?_)
  · have h := (if_pos c14).symm.trans h
    refine V.iload dX10_more_93 rfl ?_
    obtain rfl := Option.some.inj h
    exact V.ireturn dX10_more_95
  · have h := (if_neg c14).symm.trans h
    refine V.aload_n dX10_more_46 rfl rfl ?_
    obtain ⟨x15, h16, h⟩ := bnd h
    refine V.getF (gR_F h16) CF10 (Nat.le_of_ble_eq_true rfl) fl_RX10_39 dX10_more_47 ?_
    refine V.aload_n dX10_more_50 rfl rfl ?_
    obtain ⟨x17, h18, h⟩ := bnd h
    refine V.getF (gR_F h18) CF10 (Nat.le_of_ble_eq_true rfl) fl_RX10_28 dX10_more_51 ?_
    refine V.iload dX10_more_54 rfl ?_
    obtain ⟨p19, h20, h⟩ := bnd h
    have w21 := w_X9_standAtCase (g := g) h20
    refine V.callVv (args := [LR x17, LI v7]) (st := []) w21.1 (oo_X9_standAtCase h20) mk_X9_standAtCase w21.2 vc_9 ml_RX10_158 im_X9_standAtCase se_X9_standAtCase rfl (Nat.le_of_ble_eq_true rfl) (by decide) rfl (Nat.le_of_ble_eq_true rfl) dX10_more_56 ?_
    refine V.iload dX10_more_59 rfl ?_
    refine V.aload_n dX10_more_61 rfl rfl ?_
    obtain ⟨x22, h23, h⟩ := bnd h
    refine V.getF (gR_F h23) CF10 (Nat.le_of_ble_eq_true rfl) fl_RX10_39 dX10_more_62 ?_
    refine V.aload_n dX10_more_65 rfl rfl ?_
    obtain ⟨p24, h25, h⟩ := bnd h
    have w26 := w_X9_hoursLet (g := g) N h25
    refine V.callVi (args := [LR v3]) (st := [LI v5]) w26.1 (oo_X9_hoursLet h25) mk_X9_hoursLet w26.2 vc_9 ml_RX10_165 im_X9_hoursLet se_X9_hoursLet rfl (Nat.le_of_ble_eq_true rfl) (by decide) rfl (Nat.le_of_ble_eq_true rfl) dX10_more_66 ?_
    refine V.aload_n dX10_more_69 rfl rfl ?_
    obtain ⟨x27, h28, h⟩ := bnd h
    refine V.getF (gR_F h28) CF10 (Nat.le_of_ble_eq_true rfl) fl_RX10_39 dX10_more_70 ?_
    refine V.aload dX10_more_73 rfl ?_
    obtain ⟨p29, h30, h⟩ := bnd h
    have w31 := w_X9_hoursLet (g := g) N h30
    refine V.callVi (args := [LR v4]) (st := [LI p24.1, LI v5]) w31.1 (oo_X9_hoursLet h30) mk_X9_hoursLet w31.2 vc_9 ml_RX10_165 im_X9_hoursLet se_X9_hoursLet rfl (Nat.le_of_ble_eq_true rfl) (by decide) rfl (Nat.le_of_ble_eq_true rfl) dX10_more_75 ?_
    refine V.iconst dX10_more_78 ki_m1 ?_
    refine V.ixor dX10_more_79 ?_
    refine V.iand dX10_more_80 ?_
    obtain ⟨p32, h33, h⟩ := bnd h
    have w34 := w_J6_bitCount_0f7a4 (g := g) (A := p29.2) h33
    refine V.callSi (args := [LI (p24.1 &&& (p29.1 ^^^ (-1 : Int32)))]) (st := [LI v5]) w34.1 mk_J6_bitCount_0f7a4 w34.2 ml_RX10_168 sm_J6_bitCount_0f7a4 rfl (Nat.le_of_ble_eq_true rfl) (by decide) rfl (Nat.le_of_ble_eq_true rfl) dX10_more_81 ?_
    refine V.iadd dX10_more_84 ?_
    refine V.istore (ls' := [some (LR v0), none, none, some (LR v3), some (LR v4), some (LI (v5 + p32)), some (LI v6), some (LI v7)]) dX10_more_85 (by decide) rfl rfl ?_
    refine V.iinc (ls' := [some (LR v0), none, none, some (LR v3), some (LR v4), some (LI (v5 + p32)), some (LI v6), some (LI (v7 + (1 : Int32)))]) dX10_more_87 rfl ki_1 (by decide) rfl rfl ?_
    refine V.goto (tgt := 39) dX10_more_90 (by decide) ?_
    refine V.weak [true, false, false, true, true, true, true, true] ?_
    exact hk39 h
def l_X10_more_39 (N : Nat) : Nat → LH → Option Nat → Option Nat → Option Nat → Int32 → Int32 → Int32 → Option (Int32 × LH)
  | 0, _, _, _, _, _, _, _ => none
  | n + 1, A, v0, v3, v4, v5, v6, v7 => b_X10_more_39 N (l_X10_more_39 N n) A v0 v3 v4 v5 v6 v7
theorem wl_X10_more_39 {g : GG} {n0 z0 : Nat} (N : Nat) : ∀ (n : Nat) {A : LH} {v0 : Option Nat} {v3 : Option Nat} {v4 : Option Nat} {v5 : Int32} {v6 : Int32} {v7 : Int32} {p : Int32 × LH}, l_X10_more_39 N n A v0 v3 v4 v5 v6 v7 = some p → V g m_X10_more 6 n0 z0 (some (LI p.1)) p.2 A 39 [some (LR v0), none, none, some (LR v3), some (LR v4), some (LI v5), some (LI v6), some (LI v7)] []
  | 0, _, _, _, _, _, _, _, _, h => nomatch h
  | n + 1, _, _, _, _, _, _, _, _, h => wb_X10_more_39 N (wl_X10_more_39 N n) h
def b_X10_more (N : Nat) (A : LH) (v0 : Option Nat) (v1 : Int32) (v2 : Int32) : Option (Int32 × LH) :=
  (f_X10_rulesIn A v0 v1).bind fun p1 => (f_X10_rulesIn A v0 v2).bind fun p4 => if p1 = none then some ((-1 : Int32), A) else if p4 = none then some ((-1 : Int32), A) else (gR A v0 10 2).bind fun x9 => (f_X8_cases A x9).bind fun p11 => l_X10_more_39 N N A v0 p1 p4 (0 : Int32) p11 (0 : Int32)
set_option maxRecDepth 4000 in
theorem wb_X10_more {g : GG} {n0 z0 : Nat} (N : Nat) {A : LH} {v0 : Option Nat} {v1 : Int32} {v2 : Int32} {p : Int32 × LH} (h : b_X10_more N A v0 v1 v2 = some p) : V g m_X10_more 6 n0 z0 (some (LI p.1)) p.2 A 0 [some (LR v0), some (LI v1), some (LI v2)] [] := by
  unfold b_X10_more at h
  refine V.aload_n dX10_more_0 rfl rfl ?_
  refine V.iload_n dX10_more_1 rfl rfl ?_
  obtain ⟨p1, h2, h⟩ := bnd h
  have w3 := w_X10_rulesIn (g := g) h2
  refine V.callVr (args := [LI v1]) (st := []) w3.1 (oo_X10_rulesIn h2) mk_X10_rulesIn w3.2 vc_10 ml_RX10_121 im_X10_rulesIn se_X10_rulesIn rfl (Nat.le_of_ble_eq_true rfl) (by decide) rfl (Nat.le_of_ble_eq_true rfl) dX10_more_2 ?_
  refine V.astore_n (ls' := [some (LR v0), some (LI v1), some (LI v2), some (LR p1)]) dX10_more_5 rfl (by decide) rfl rfl ?_
  refine V.aload_n dX10_more_6 rfl rfl ?_
  refine V.iload_n dX10_more_7 rfl rfl ?_
  obtain ⟨p4, h5, h⟩ := bnd h
  have w6 := w_X10_rulesIn (g := g) h5
  refine V.callVr (args := [LI v2]) (st := []) w6.1 (oo_X10_rulesIn h5) mk_X10_rulesIn w6.2 vc_10 ml_RX10_121 im_X10_rulesIn se_X10_rulesIn rfl (Nat.le_of_ble_eq_true rfl) (by decide) rfl (Nat.le_of_ble_eq_true rfl) dX10_more_8 ?_
  refine V.astore (ls' := [some (LR v0), some (LI v1), some (LI v2), some (LR p1), some (LR p4)]) dX10_more_11 (by decide) rfl rfl ?_
  refine V.aload_n dX10_more_13 rfl rfl ?_
  refine V.ifnull_ (tgt := 22) dX10_more_14 (by decide) (fun c36 => ?_) (fun c36 => ?_)
  · have h := (if_pos c36).symm.trans h
    refine V.iconst dX10_more_22 ki_m1 ?_
    obtain rfl := Option.some.inj h
    exact V.ireturn dX10_more_23
  · have h := (if_neg c36).symm.trans h
    refine V.aload dX10_more_17 rfl ?_
    refine V.ifnonnull_ (tgt := 24) dX10_more_19 (by decide) (fun c35 => ?_) (fun c35 => ?_)
    · have h := (if_neg c35).symm.trans h
      refine V.iconst dX10_more_24 ki_0 ?_
      refine V.istore (ls' := [some (LR v0), some (LI v1), some (LI v2), some (LR p1), some (LR p4), some (LI (0 : Int32))]) dX10_more_25 (by decide) rfl rfl ?_
      refine V.aload_n dX10_more_27 rfl rfl ?_
      obtain ⟨x9, h10, h⟩ := bnd h
      refine V.getF (gR_F h10) CF10 (Nat.le_of_ble_eq_true rfl) fl_RX10_28 dX10_more_28 ?_
      obtain ⟨p11, h12, h⟩ := bnd h
      have w13 := w_X8_cases (g := g) h12
      refine V.callVi (args := []) (st := []) w13.1 (oo_X8_cases h12) mk_X8_cases w13.2 vc_8 ml_RX10_155 im_X8_cases se_X8_cases rfl (Nat.le_of_ble_eq_true rfl) (by decide) rfl (Nat.le_of_ble_eq_true rfl) dX10_more_31 ?_
      refine V.istore (ls' := [some (LR v0), some (LI v1), some (LI v2), some (LR p1), some (LR p4), some (LI (0 : Int32)), some (LI p11)]) dX10_more_34 (by decide) rfl rfl ?_
      refine V.iconst dX10_more_36 ki_0 ?_
      refine V.istore (ls' := [some (LR v0), some (LI v1), some (LI v2), some (LR p1), some (LR p4), some (LI (0 : Int32)), some (LI p11), some (LI (0 : Int32))]) dX10_more_37 (by decide) rfl rfl ?_
      refine V.weak [true, false, false, true, true, true, true, true] ?_
      exact wl_X10_more_39 N N h
    · have h := (if_pos c35).symm.trans h
      refine V.iconst dX10_more_22 ki_m1 ?_
      obtain rfl := Option.some.inj h
      exact V.ireturn dX10_more_23
def f_X10_more (N : Nat) (A : LH) (v0 : Option Nat) (v1 : Int32) (v2 : Int32) : Option (Int32 × LH) := if isO A v0 10 = true then b_X10_more N A v0 v1 v2 else none
theorem w_X10_more {g : GG} (N : Nat) {A : LH} {v0 : Option Nat} {v1 : Int32} {v2 : Int32} {p : Int32 × LH} (h : f_X10_more N A v0 v1 v2 = some p) : Ct g m_X10_more 6 [LR v0, LI v1, LI v2] A (some (LI p.1)) p.2 := by
  unfold f_X10_more at h
  obtain ⟨ho, h⟩ := ifN h
  exact ⟨wb_X10_more N h, rfl⟩
theorem oo_X10_more {N : Nat} {A : LH} {v0 : Option Nat} {v1 : Int32} {v2 : Int32} {p : Int32 × LH} (h : f_X10_more N A v0 v1 v2 = some p) : isO A v0 10 = true := by unfold f_X10_more at h; exact (ifN h).1
def b_X10_unlike_38 (N : Nat) (k38 : LH → Option Nat → Int32 → Option Nat → Option Nat → Int32 → Int32 → Option (Int32 × LH)) (A : LH) (v0 : Option Nat) (v3 : Int32) (v4 : Option Nat) (v5 : Option Nat) (v6 : Int32) (v7 : Int32) : Option (Int32 × LH) :=
  if v6 ≤ v7 then some ((-1 : Int32), A) else (gR A v0 10 4).bind fun x15 => (gR A v0 10 2).bind fun x17 => (f_X9_standAtCase A x15 x17 v7).bind fun p19 => (gR p19 v0 10 4).bind fun x22 => (f_X9_hoursLet N p19 x22 v4).bind fun p24 => (gR p24.2 v0 10 4).bind fun x27 => (f_X9_hoursLet N p24.2 x27 v5).bind fun p29 => if (p24.1 ^^^ p29.1) = 0 then k38 p29.2 v0 v3 v4 v5 v6 (v7 + (1 : Int32)) else (gR p29.2 v0 10 4).bind fun x33 => (f_J6_numberOfTrailingZeros_0f7a4 (p24.1 ^^^ p29.1)).bind fun p35 => (f_X9_toldAt p29.2 x33 p35 v3).bind fun p38 => some (p38, p29.2)
set_option maxRecDepth 4000 in
theorem wb_X10_unlike_38 {g : GG} {n0 z0 : Nat} (N : Nat) {k38 : LH → Option Nat → Int32 → Option Nat → Option Nat → Int32 → Int32 → Option (Int32 × LH)} {A : LH} {v0 : Option Nat} {v3 : Int32} {v4 : Option Nat} {v5 : Option Nat} {v6 : Int32} {v7 : Int32} {p : Int32 × LH} (hk38 : ∀ {A : LH} {v0 : Option Nat} {v3 : Int32} {v4 : Option Nat} {v5 : Option Nat} {v6 : Int32} {v7 : Int32} {p : Int32 × LH}, k38 A v0 v3 v4 v5 v6 v7 = some p → V g m_X10_unlike 6 n0 z0 (some (LI p.1)) p.2 A 38 [some (LR v0), none, none, some (LI v3), some (LR v4), some (LR v5), some (LI v6), some (LI v7)] []) (h : b_X10_unlike_38 N k38 A v0 v3 v4 v5 v6 v7 = some p) : V g m_X10_unlike 6 n0 z0 (some (LI p.1)) p.2 A 38 [some (LR v0), none, none, some (LI v3), some (LR v4), some (LR v5), some (LI v6), some (LI v7)] [] := by
  unfold b_X10_unlike_38 at h
  refine V.iload dX10_unlike_38 rfl ?_
  refine V.iload dX10_unlike_40 rfl ?_
  refine V.icmp_ge (tgt := 104) dX10_unlike_42 (by decide) (fun c14 => ?_) (fun c14 => ?_)
  · have h := (if_pos c14).symm.trans h
    refine V.iconst dX10_unlike_104 ki_m1 ?_
    obtain rfl := Option.some.inj h
    exact V.ireturn dX10_unlike_105
  · have h := (if_neg c14).symm.trans h
    refine V.aload_n dX10_unlike_45 rfl rfl ?_
    obtain ⟨x15, h16, h⟩ := bnd h
    refine V.getF (gR_F h16) CF10 (Nat.le_of_ble_eq_true rfl) fl_RX10_39 dX10_unlike_46 ?_
    refine V.aload_n dX10_unlike_49 rfl rfl ?_
    obtain ⟨x17, h18, h⟩ := bnd h
    refine V.getF (gR_F h18) CF10 (Nat.le_of_ble_eq_true rfl) fl_RX10_28 dX10_unlike_50 ?_
    refine V.iload dX10_unlike_53 rfl ?_
    obtain ⟨p19, h20, h⟩ := bnd h
    have w21 := w_X9_standAtCase (g := g) h20
    refine V.callVv (args := [LR x17, LI v7]) (st := []) w21.1 (oo_X9_standAtCase h20) mk_X9_standAtCase w21.2 vc_9 ml_RX10_158 im_X9_standAtCase se_X9_standAtCase rfl (Nat.le_of_ble_eq_true rfl) (by decide) rfl (Nat.le_of_ble_eq_true rfl) dX10_unlike_55 ?_
    refine V.aload_n dX10_unlike_58 rfl rfl ?_
    obtain ⟨x22, h23, h⟩ := bnd h
    refine V.getF (gR_F h23) CF10 (Nat.le_of_ble_eq_true rfl) fl_RX10_39 dX10_unlike_59 ?_
    refine V.aload dX10_unlike_62 rfl ?_
    obtain ⟨p24, h25, h⟩ := bnd h
    have w26 := w_X9_hoursLet (g := g) N h25
    refine V.callVi (args := [LR v4]) (st := []) w26.1 (oo_X9_hoursLet h25) mk_X9_hoursLet w26.2 vc_9 ml_RX10_165 im_X9_hoursLet se_X9_hoursLet rfl (Nat.le_of_ble_eq_true rfl) (by decide) rfl (Nat.le_of_ble_eq_true rfl) dX10_unlike_64 ?_
    refine V.aload_n dX10_unlike_67 rfl rfl ?_
    obtain ⟨x27, h28, h⟩ := bnd h
    refine V.getF (gR_F h28) CF10 (Nat.le_of_ble_eq_true rfl) fl_RX10_39 dX10_unlike_68 ?_
    refine V.aload dX10_unlike_71 rfl ?_
    obtain ⟨p29, h30, h⟩ := bnd h
    have w31 := w_X9_hoursLet (g := g) N h30
    refine V.callVi (args := [LR v5]) (st := [LI p24.1]) w31.1 (oo_X9_hoursLet h30) mk_X9_hoursLet w31.2 vc_9 ml_RX10_165 im_X9_hoursLet se_X9_hoursLet rfl (Nat.le_of_ble_eq_true rfl) (by decide) rfl (Nat.le_of_ble_eq_true rfl) dX10_unlike_73 ?_
    refine V.ixor dX10_unlike_76 ?_
    refine V.istore (ls' := [some (LR v0), none, none, some (LI v3), some (LR v4), some (LR v5), some (LI v6), some (LI v7), some (LI (p24.1 ^^^ p29.1))]) dX10_unlike_77 (by decide) rfl rfl ?_
    refine V.iload dX10_unlike_79 rfl ?_
    refine V.if_eq (tgt := 98) dX10_unlike_81 (by decide) (fun c32 => ?_) (fun c32 => ?_)
    · have h := (if_pos c32).symm.trans h
      refine V.iinc (ls' := [some (LR v0), none, none, some (LI v3), some (LR v4), some (LR v5), some (LI v6), some (LI (v7 + (1 : Int32))), some (LI (p24.1 ^^^ p29.1))]) dX10_unlike_98 rfl ki_1 (by decide) rfl rfl ?_
      refine V.goto (tgt := 38) dX10_unlike_101 (by decide) ?_
      refine V.weak [true, false, false, true, true, true, true, true] ?_
      exact hk38 h
    · have h := (if_neg c32).symm.trans h
      refine V.aload_n dX10_unlike_84 rfl rfl ?_
      obtain ⟨x33, h34, h⟩ := bnd h
      refine V.getF (gR_F h34) CF10 (Nat.le_of_ble_eq_true rfl) fl_RX10_39 dX10_unlike_85 ?_
      refine V.iload dX10_unlike_88 rfl ?_
      obtain ⟨p35, h36, h⟩ := bnd h
      have w37 := w_J6_numberOfTrailingZeros_0f7a4 (g := g) (A := p29.2) h36
      refine V.callSi (args := [LI (p24.1 ^^^ p29.1)]) (st := [LR x33]) w37.1 mk_J6_numberOfTrailingZeros_0f7a4 w37.2 ml_RX10_174 sm_J6_numberOfTrailingZeros_0f7a4 rfl (Nat.le_of_ble_eq_true rfl) (by decide) rfl (Nat.le_of_ble_eq_true rfl) dX10_unlike_90 ?_
      refine V.iload_n dX10_unlike_93 rfl rfl ?_
      obtain ⟨p38, h39, h⟩ := bnd h
      have w40 := w_X9_toldAt (g := g) h39
      refine V.callVi (args := [LI p35, LI v3]) (st := []) w40.1 (oo_X9_toldAt h39) mk_X9_toldAt w40.2 vc_9 ml_RX10_177 im_X9_toldAt se_X9_toldAt rfl (Nat.le_of_ble_eq_true rfl) (by decide) rfl (Nat.le_of_ble_eq_true rfl) dX10_unlike_94 ?_
      obtain rfl := Option.some.inj h
      exact V.ireturn dX10_unlike_97
def l_X10_unlike_38 (N : Nat) : Nat → LH → Option Nat → Int32 → Option Nat → Option Nat → Int32 → Int32 → Option (Int32 × LH)
  | 0, _, _, _, _, _, _, _ => none
  | n + 1, A, v0, v3, v4, v5, v6, v7 => b_X10_unlike_38 N (l_X10_unlike_38 N n) A v0 v3 v4 v5 v6 v7
theorem wl_X10_unlike_38 {g : GG} {n0 z0 : Nat} (N : Nat) : ∀ (n : Nat) {A : LH} {v0 : Option Nat} {v3 : Int32} {v4 : Option Nat} {v5 : Option Nat} {v6 : Int32} {v7 : Int32} {p : Int32 × LH}, l_X10_unlike_38 N n A v0 v3 v4 v5 v6 v7 = some p → V g m_X10_unlike 6 n0 z0 (some (LI p.1)) p.2 A 38 [some (LR v0), none, none, some (LI v3), some (LR v4), some (LR v5), some (LI v6), some (LI v7)] []
  | 0, _, _, _, _, _, _, _, _, h => nomatch h
  | n + 1, _, _, _, _, _, _, _, _, h => wb_X10_unlike_38 N (wl_X10_unlike_38 N n) h
def b_X10_unlike (N : Nat) (A : LH) (v0 : Option Nat) (v1 : Int32) (v2 : Int32) (v3 : Int32) : Option (Int32 × LH) :=
  (f_X10_rulesIn A v0 v1).bind fun p1 => (f_X10_rulesIn A v0 v2).bind fun p4 => if p1 = none then some ((-1 : Int32), A) else if p4 = none then some ((-1 : Int32), A) else (gR A v0 10 2).bind fun x9 => (f_X8_cases A x9).bind fun p11 => l_X10_unlike_38 N N A v0 v3 p1 p4 p11 (0 : Int32)
set_option maxRecDepth 4000 in
theorem wb_X10_unlike {g : GG} {n0 z0 : Nat} (N : Nat) {A : LH} {v0 : Option Nat} {v1 : Int32} {v2 : Int32} {v3 : Int32} {p : Int32 × LH} (h : b_X10_unlike N A v0 v1 v2 v3 = some p) : V g m_X10_unlike 6 n0 z0 (some (LI p.1)) p.2 A 0 [some (LR v0), some (LI v1), some (LI v2), some (LI v3)] [] := by
  unfold b_X10_unlike at h
  refine V.aload_n dX10_unlike_0 rfl rfl ?_
  refine V.iload_n dX10_unlike_1 rfl rfl ?_
  obtain ⟨p1, h2, h⟩ := bnd h
  have w3 := w_X10_rulesIn (g := g) h2
  refine V.callVr (args := [LI v1]) (st := []) w3.1 (oo_X10_rulesIn h2) mk_X10_rulesIn w3.2 vc_10 ml_RX10_121 im_X10_rulesIn se_X10_rulesIn rfl (Nat.le_of_ble_eq_true rfl) (by decide) rfl (Nat.le_of_ble_eq_true rfl) dX10_unlike_2 ?_
  refine V.astore (ls' := [some (LR v0), some (LI v1), some (LI v2), some (LI v3), some (LR p1)]) dX10_unlike_5 (by decide) rfl rfl ?_
  refine V.aload_n dX10_unlike_7 rfl rfl ?_
  refine V.iload_n dX10_unlike_8 rfl rfl ?_
  obtain ⟨p4, h5, h⟩ := bnd h
  have w6 := w_X10_rulesIn (g := g) h5
  refine V.callVr (args := [LI v2]) (st := []) w6.1 (oo_X10_rulesIn h5) mk_X10_rulesIn w6.2 vc_10 ml_RX10_121 im_X10_rulesIn se_X10_rulesIn rfl (Nat.le_of_ble_eq_true rfl) (by decide) rfl (Nat.le_of_ble_eq_true rfl) dX10_unlike_9 ?_
  refine V.astore (ls' := [some (LR v0), some (LI v1), some (LI v2), some (LI v3), some (LR p1), some (LR p4)]) dX10_unlike_12 (by decide) rfl rfl ?_
  refine V.aload dX10_unlike_14 rfl ?_
  refine V.ifnull_ (tgt := 24) dX10_unlike_16 (by decide) (fun c42 => ?_) (fun c42 => ?_)
  · have h := (if_pos c42).symm.trans h
    refine V.iconst dX10_unlike_24 ki_m1 ?_
    obtain rfl := Option.some.inj h
    exact V.ireturn dX10_unlike_25
  · have h := (if_neg c42).symm.trans h
    refine V.aload dX10_unlike_19 rfl ?_
    refine V.ifnonnull_ (tgt := 26) dX10_unlike_21 (by decide) (fun c41 => ?_) (fun c41 => ?_)
    · have h := (if_neg c41).symm.trans h
      refine V.aload_n dX10_unlike_26 rfl rfl ?_
      obtain ⟨x9, h10, h⟩ := bnd h
      refine V.getF (gR_F h10) CF10 (Nat.le_of_ble_eq_true rfl) fl_RX10_28 dX10_unlike_27 ?_
      obtain ⟨p11, h12, h⟩ := bnd h
      have w13 := w_X8_cases (g := g) h12
      refine V.callVi (args := []) (st := []) w13.1 (oo_X8_cases h12) mk_X8_cases w13.2 vc_8 ml_RX10_155 im_X8_cases se_X8_cases rfl (Nat.le_of_ble_eq_true rfl) (by decide) rfl (Nat.le_of_ble_eq_true rfl) dX10_unlike_30 ?_
      refine V.istore (ls' := [some (LR v0), some (LI v1), some (LI v2), some (LI v3), some (LR p1), some (LR p4), some (LI p11)]) dX10_unlike_33 (by decide) rfl rfl ?_
      refine V.iconst dX10_unlike_35 ki_0 ?_
      refine V.istore (ls' := [some (LR v0), some (LI v1), some (LI v2), some (LI v3), some (LR p1), some (LR p4), some (LI p11), some (LI (0 : Int32))]) dX10_unlike_36 (by decide) rfl rfl ?_
      refine V.weak [true, false, false, true, true, true, true, true] ?_
      exact wl_X10_unlike_38 N N h
    · have h := (if_pos c41).symm.trans h
      refine V.iconst dX10_unlike_24 ki_m1 ?_
      obtain rfl := Option.some.inj h
      exact V.ireturn dX10_unlike_25
def f_X10_unlike (N : Nat) (A : LH) (v0 : Option Nat) (v1 : Int32) (v2 : Int32) (v3 : Int32) : Option (Int32 × LH) := if isO A v0 10 = true then b_X10_unlike N A v0 v1 v2 v3 else none
theorem w_X10_unlike {g : GG} (N : Nat) {A : LH} {v0 : Option Nat} {v1 : Int32} {v2 : Int32} {v3 : Int32} {p : Int32 × LH} (h : f_X10_unlike N A v0 v1 v2 v3 = some p) : Ct g m_X10_unlike 6 [LR v0, LI v1, LI v2, LI v3] A (some (LI p.1)) p.2 := by
  unfold f_X10_unlike at h
  obtain ⟨ho, h⟩ := ifN h
  exact ⟨wb_X10_unlike N h, rfl⟩
theorem oo_X10_unlike {N : Nat} {A : LH} {v0 : Option Nat} {v1 : Int32} {v2 : Int32} {v3 : Int32} {p : Int32 × LH} (h : f_X10_unlike N A v0 v1 v2 v3 = some p) : isO A v0 10 = true := by unfold f_X10_unlike at h; exact (ifN h).1
def b_X10_mend_22 (N : Nat) (k22 : LH → Option Nat → Int32 → Option Nat → Int32 → Option (Int32 × LH)) (A : LH) (v0 : Option Nat) (v1 : Int32) (v2 : Option Nat) (v3 : Int32) : Option (Int32 × LH) :=
  (gR A v0 10 2).bind fun x10 => (gR A x10 8 2).bind fun x12 => (gI A x12 5 3).bind fun x14 => if x14 ≤ v3 then (gR A v0 10 5).bind fun x17 => (f_X4_fewest N A x17).bind fun p19 => if p19.1 = (-1 : Int32) then some (p19.1, p19.2) else (gR (al p19.2 (.inr (1, [LI 0, LI 0, LI 0, LI 0])) 4) v0 10 5).bind fun x23 => (gI (al p19.2 (.inr (1, [LI 0, LI 0, LI 0, LI 0])) 4) x23 4 6).bind fun x25 => (gR (al p19.2 (.inr (1, [LI 0, LI 0, LI 0, LI 0])) 4) v0 10 5).bind fun x27 => (gI (al p19.2 (.inr (1, [LI 0, LI 0, LI 0, LI 0])) 4) x27 4 7).bind fun x29 => (f_X1_init (al p19.2 (.inr (1, [LI 0, LI 0, LI 0, LI 0])) 4) (some (8 + hn p19.2)) v1 x25 x29).bind fun p31 => (pF p31 v0 10 6 (LR (some (8 + hn p19.2)))).bind fun A34 => some (p19.1, A34) else (gR A v0 10 2).bind fun x36 => (gR A x36 8 2).bind fun x38 => (f_X5_get A x38 v3 (4 : Int32)).bind fun p40 => if p40 = (-1 : Int32) then k22 A v0 v1 v2 (v3 + (1 : Int32)) else (gR A v0 10 4).bind fun x44 => (gR A v0 10 2).bind fun x46 => (f_X9_standAtAsk A x44 x46 v3).bind fun p48 => (gR p48 v0 10 5).bind fun x51 => (gR p48 v0 10 4).bind fun x53 => (f_X9_linesHeld N p48 x53 v2).bind fun p55 => (f_X4_want N p55.2 x51 p55.1 p40).bind fun p58 => k22 p58 v0 v1 v2 (v3 + (1 : Int32))
set_option maxRecDepth 4000 in
theorem wb_X10_mend_22 {g : GG} {n0 z0 : Nat} (N : Nat) {k22 : LH → Option Nat → Int32 → Option Nat → Int32 → Option (Int32 × LH)} {A : LH} {v0 : Option Nat} {v1 : Int32} {v2 : Option Nat} {v3 : Int32} {p : Int32 × LH} (hk22 : ∀ {A : LH} {v0 : Option Nat} {v1 : Int32} {v2 : Option Nat} {v3 : Int32} {p : Int32 × LH}, k22 A v0 v1 v2 v3 = some p → V g m_X10_mend 34 n0 z0 (some (LI p.1)) p.2 A 22 [some (LR v0), some (LI v1), some (LR v2), some (LI v3)] []) (h : b_X10_mend_22 N k22 A v0 v1 v2 v3 = some p) : V g m_X10_mend 34 n0 z0 (some (LI p.1)) p.2 A 22 [some (LR v0), some (LI v1), some (LR v2), some (LI v3)] [] := by
  unfold b_X10_mend_22 at h
  refine V.iload_n dX10_mend_22 rfl rfl ?_
  refine V.aload_n dX10_mend_23 rfl rfl ?_
  obtain ⟨x10, h11, h⟩ := bnd h
  refine V.getF (gR_F h11) CF10 (Nat.le_of_ble_eq_true rfl) fl_RX10_28 dX10_mend_24 ?_
  obtain ⟨x12, h13, h⟩ := bnd h
  refine V.getFN (gR_F h13) CF8 (Nat.le_of_ble_eq_true rfl) fl_RX10_141 dX10_mend_27 ?_
  obtain ⟨x14, h15, h⟩ := bnd h
  refine V.getFN (gI_F h15) CF5 (Nat.le_of_ble_eq_true rfl) fl_RX10_144 dX10_mend_30 ?_
  refine V.icmp_ge (tgt := 91) dX10_mend_33 (by decide) (fun c16 => ?_) (fun c16 => ?_)
  · have h := (if_pos c16).symm.trans h
    refine V.aload_n dX10_mend_91 rfl rfl ?_
    obtain ⟨x17, h18, h⟩ := bnd h
    refine V.getF (gR_F h18) CF10 (Nat.le_of_ble_eq_true rfl) fl_RX10_46 dX10_mend_92 ?_
    obtain ⟨p19, h20, h⟩ := bnd h
    have w21 := w_X4_fewest (g := g) N h20
    refine V.callVi (args := []) (st := []) w21.1 (oo_X4_fewest h20) mk_X4_fewest w21.2 vc_4 ml_RX10_191 im_X4_fewest se_X4_fewest rfl (Nat.le_of_ble_eq_true rfl) (by decide) rfl (Nat.le_of_ble_eq_true rfl) dX10_mend_95 ?_
    refine V.istore_n (ls' := [some (LR v0), some (LI v1), some (LR v2), some (LI p19.1)]) dX10_mend_98 rfl (by decide) rfl rfl ?_
    refine V.iload_n dX10_mend_99 rfl rfl ?_
    refine V.iconst dX10_mend_100 ki_m1 ?_
    refine V.icmp_eq (tgt := 130) dX10_mend_101 (by decide) (fun c22 => ?_) (fun c22 => ?_)
    · have h := (if_pos c22).symm.trans h
      refine V.iload_n dX10_mend_130 rfl rfl ?_
      obtain rfl := Option.some.inj h
      exact V.ireturn dX10_mend_131
    · have h := (if_neg c22).symm.trans h
      refine V.aload_n dX10_mend_104 rfl rfl ?_
      refine V.new CF1 okT1 cl_RX10_194 in_1 ii_1 (fs := [LI 0, LI 0, LI 0, LI 0]) rfl dX10_mend_105 ?_
      refine V.dup dX10_mend_108 rfl ?_
      refine V.iload_n dX10_mend_109 rfl rfl ?_
      refine V.aload_n dX10_mend_110 rfl rfl ?_
      obtain ⟨x23, h24, h⟩ := bnd h
      refine V.getF (gR_F h24) CF10 (Nat.le_of_ble_eq_true rfl) fl_RX10_46 dX10_mend_111 ?_
      obtain ⟨x25, h26, h⟩ := bnd h
      refine V.getFN (gI_F h26) CF4 (Nat.le_of_ble_eq_true rfl) fl_RX10_196 dX10_mend_114 ?_
      refine V.aload_n dX10_mend_117 rfl rfl ?_
      obtain ⟨x27, h28, h⟩ := bnd h
      refine V.getF (gR_F h28) CF10 (Nat.le_of_ble_eq_true rfl) fl_RX10_46 dX10_mend_118 ?_
      obtain ⟨x29, h30, h⟩ := bnd h
      refine V.getFN (gI_F h30) CF4 (Nat.le_of_ble_eq_true rfl) fl_RX10_199 dX10_mend_121 ?_
      obtain ⟨p31, h32, h⟩ := bnd h
      have w33 := w_X1_init (g := g) h32
      refine V.callI (args := [LI v1, LI x25, LI x29]) (st := [LR (some (8 + hn p19.2)), LR v0]) w33.1 (oo_X1_init h32) mk_X1_init rfl ml_RX10_202 im_X1_init rfl rfl (Nat.le_of_ble_eq_true rfl) (by decide) rfl (Nat.le_of_ble_eq_true rfl) dX10_mend_124 ?_
      obtain ⟨A34, h35, h⟩ := bnd h
      refine V.putF h35 (nrR _ rfl) (ftR _ rfl) rfl CF10 (Nat.le_of_ble_eq_true rfl) fl_RX10_50 dX10_mend_127 ?_
      refine V.iload_n dX10_mend_130 rfl rfl ?_
      obtain rfl := Option.some.inj h
      exact V.ireturn dX10_mend_131
  · have h := (if_neg c16).symm.trans h
    refine V.aload_n dX10_mend_36 rfl rfl ?_
    obtain ⟨x36, h37, h⟩ := bnd h
    refine V.getF (gR_F h37) CF10 (Nat.le_of_ble_eq_true rfl) fl_RX10_28 dX10_mend_37 ?_
    obtain ⟨x38, h39, h⟩ := bnd h
    refine V.getFN (gR_F h39) CF8 (Nat.le_of_ble_eq_true rfl) fl_RX10_141 dX10_mend_40 ?_
    refine V.iload_n dX10_mend_43 rfl rfl ?_
    refine V.iconst dX10_mend_44 ki_4 ?_
    obtain ⟨p40, h41, h⟩ := bnd h
    have w42 := w_X5_get (g := g) h41
    refine V.callVi (args := [LI v3, LI (4 : Int32)]) (st := []) w42.1 (oo_X5_get h41) mk_X5_get w42.2 vc_5 ml_RX10_117 im_X5_get se_X5_get rfl (Nat.le_of_ble_eq_true rfl) (by decide) rfl (Nat.le_of_ble_eq_true rfl) dX10_mend_45 ?_
    refine V.istore (ls' := [some (LR v0), some (LI v1), some (LR v2), some (LI v3), some (LI p40)]) dX10_mend_48 (by decide) rfl rfl ?_
    refine V.iload dX10_mend_50 rfl ?_
    refine V.iconst dX10_mend_52 ki_m1 ?_
    refine V.icmp_eq (tgt := 85) dX10_mend_53 (by decide) (fun c43 => ?_) (fun c43 => ?_)
    · have h := (if_pos c43).symm.trans h
      refine V.iinc (ls' := [some (LR v0), some (LI v1), some (LR v2), some (LI (v3 + (1 : Int32))), some (LI p40)]) dX10_mend_85 rfl ki_1 (by decide) rfl rfl ?_
      refine V.goto (tgt := 22) dX10_mend_88 (by decide) ?_
      refine V.weak [true, true, true, true] ?_
      exact hk22 h
    · have h := (if_neg c43).symm.trans h
      refine V.aload_n dX10_mend_56 rfl rfl ?_
      obtain ⟨x44, h45, h⟩ := bnd h
      refine V.getF (gR_F h45) CF10 (Nat.le_of_ble_eq_true rfl) fl_RX10_39 dX10_mend_57 ?_
      refine V.aload_n dX10_mend_60 rfl rfl ?_
      obtain ⟨x46, h47, h⟩ := bnd h
      refine V.getF (gR_F h47) CF10 (Nat.le_of_ble_eq_true rfl) fl_RX10_28 dX10_mend_61 ?_
      refine V.iload_n dX10_mend_64 rfl rfl ?_
      obtain ⟨p48, h49, h⟩ := bnd h
      have w50 := w_X9_standAtAsk (g := g) h49
      refine V.callVv (args := [LR x46, LI v3]) (st := []) w50.1 (oo_X9_standAtAsk h49) mk_X9_standAtAsk w50.2 vc_9 ml_RX10_147 im_X9_standAtAsk se_X9_standAtAsk rfl (Nat.le_of_ble_eq_true rfl) (by decide) rfl (Nat.le_of_ble_eq_true rfl) dX10_mend_65 ?_
      refine V.aload_n dX10_mend_68 rfl rfl ?_
      obtain ⟨x51, h52, h⟩ := bnd h
      refine V.getF (gR_F h52) CF10 (Nat.le_of_ble_eq_true rfl) fl_RX10_46 dX10_mend_69 ?_
      refine V.aload_n dX10_mend_72 rfl rfl ?_
      obtain ⟨x53, h54, h⟩ := bnd h
      refine V.getF (gR_F h54) CF10 (Nat.le_of_ble_eq_true rfl) fl_RX10_39 dX10_mend_73 ?_
      refine V.aload_n dX10_mend_76 rfl rfl ?_
      obtain ⟨p55, h56, h⟩ := bnd h
      have w57 := w_X9_linesHeld (g := g) N h56
      refine V.callVi (args := [LR v2]) (st := [LR x51]) w57.1 (oo_X9_linesHeld h56) mk_X9_linesHeld w57.2 vc_9 ml_RX10_184 im_X9_linesHeld se_X9_linesHeld rfl (Nat.le_of_ble_eq_true rfl) (by decide) rfl (Nat.le_of_ble_eq_true rfl) dX10_mend_77 ?_
      refine V.iload dX10_mend_80 rfl ?_
      obtain ⟨p58, h59, h⟩ := bnd h
      have w60 := w_X4_want (g := g) N h59
      refine V.callVv (args := [LI p55.1, LI p40]) (st := []) w60.1 (oo_X4_want h59) mk_X4_want w60.2 vc_4 ml_RX10_187 im_X4_want se_X4_want rfl (Nat.le_of_ble_eq_true rfl) (by decide) rfl (Nat.le_of_ble_eq_true rfl) dX10_mend_82 ?_
      refine V.iinc (ls' := [some (LR v0), some (LI v1), some (LR v2), some (LI (v3 + (1 : Int32))), some (LI p40)]) dX10_mend_85 rfl ki_1 (by decide) rfl rfl ?_
      refine V.goto (tgt := 22) dX10_mend_88 (by decide) ?_
      refine V.weak [true, true, true, true] ?_
      exact hk22 h
def l_X10_mend_22 (N : Nat) : Nat → LH → Option Nat → Int32 → Option Nat → Int32 → Option (Int32 × LH)
  | 0, _, _, _, _, _ => none
  | n + 1, A, v0, v1, v2, v3 => b_X10_mend_22 N (l_X10_mend_22 N n) A v0 v1 v2 v3
theorem wl_X10_mend_22 {g : GG} {n0 z0 : Nat} (N : Nat) : ∀ (n : Nat) {A : LH} {v0 : Option Nat} {v1 : Int32} {v2 : Option Nat} {v3 : Int32} {p : Int32 × LH}, l_X10_mend_22 N n A v0 v1 v2 v3 = some p → V g m_X10_mend 34 n0 z0 (some (LI p.1)) p.2 A 22 [some (LR v0), some (LI v1), some (LR v2), some (LI v3)] []
  | 0, _, _, _, _, _, _, h => nomatch h
  | n + 1, _, _, _, _, _, _, h => wb_X10_mend_22 N (wl_X10_mend_22 N n) h
def b_X10_mend (N : Nat) (A : LH) (v0 : Option Nat) (v1 : Int32) : Option (Int32 × LH) :=
  (f_X10_rulesIn A v0 v1).bind fun p1 => if p1 = none then some ((-1 : Int32), A) else (gR A v0 10 5).bind fun x5 => (f_X4_start N A x5 p1).bind fun p7 => l_X10_mend_22 N N p7 v0 v1 p1 (0 : Int32)
set_option maxRecDepth 4000 in
theorem wb_X10_mend {g : GG} {n0 z0 : Nat} (N : Nat) {A : LH} {v0 : Option Nat} {v1 : Int32} {p : Int32 × LH} (h : b_X10_mend N A v0 v1 = some p) : V g m_X10_mend 34 n0 z0 (some (LI p.1)) p.2 A 0 [some (LR v0), some (LI v1)] [] := by
  unfold b_X10_mend at h
  refine V.aload_n dX10_mend_0 rfl rfl ?_
  refine V.iload_n dX10_mend_1 rfl rfl ?_
  obtain ⟨p1, h2, h⟩ := bnd h
  have w3 := w_X10_rulesIn (g := g) h2
  refine V.callVr (args := [LI v1]) (st := []) w3.1 (oo_X10_rulesIn h2) mk_X10_rulesIn w3.2 vc_10 ml_RX10_121 im_X10_rulesIn se_X10_rulesIn rfl (Nat.le_of_ble_eq_true rfl) (by decide) rfl (Nat.le_of_ble_eq_true rfl) dX10_mend_2 ?_
  refine V.astore_n (ls' := [some (LR v0), some (LI v1), some (LR p1)]) dX10_mend_5 rfl (by decide) rfl rfl ?_
  refine V.aload_n dX10_mend_6 rfl rfl ?_
  refine V.ifnonnull_ (tgt := 12) dX10_mend_7 (by decide) (fun c61 => ?_) (fun c61 => ?_)
  · have h := (if_neg c61).symm.trans h
    refine V.aload_n dX10_mend_12 rfl rfl ?_
    obtain ⟨x5, h6, h⟩ := bnd h
    refine V.getF (gR_F h6) CF10 (Nat.le_of_ble_eq_true rfl) fl_RX10_46 dX10_mend_13 ?_
    refine V.aload_n dX10_mend_16 rfl rfl ?_
    obtain ⟨p7, h8, h⟩ := bnd h
    have w9 := w_X4_start (g := g) N h8
    refine V.callVv (args := [LR p1]) (st := []) w9.1 (oo_X4_start h8) mk_X4_start w9.2 vc_4 ml_RX10_180 im_X4_start se_X4_start rfl (Nat.le_of_ble_eq_true rfl) (by decide) rfl (Nat.le_of_ble_eq_true rfl) dX10_mend_17 ?_
    refine V.iconst dX10_mend_20 ki_0 ?_
    refine V.istore_n (ls' := [some (LR v0), some (LI v1), some (LR p1), some (LI (0 : Int32))]) dX10_mend_21 rfl (by decide) rfl rfl ?_
    refine V.weak [true, true, true, true] ?_
    exact wl_X10_mend_22 N N h
  · have h := (if_pos c61).symm.trans h
    refine V.iconst dX10_mend_10 ki_m1 ?_
    obtain rfl := Option.some.inj h
    exact V.ireturn dX10_mend_11
def f_X10_mend (N : Nat) (A : LH) (v0 : Option Nat) (v1 : Int32) : Option (Int32 × LH) := if isO A v0 10 = true then b_X10_mend N A v0 v1 else none
theorem w_X10_mend {g : GG} (N : Nat) {A : LH} {v0 : Option Nat} {v1 : Int32} {p : Int32 × LH} (h : f_X10_mend N A v0 v1 = some p) : Ct g m_X10_mend 34 [LR v0, LI v1] A (some (LI p.1)) p.2 := by
  unfold f_X10_mend at h
  obtain ⟨ho, h⟩ := ifN h
  exact ⟨wb_X10_mend N h, rfl⟩
theorem oo_X10_mend {N : Nat} {A : LH} {v0 : Option Nat} {v1 : Int32} {p : Int32 × LH} (h : f_X10_mend N A v0 v1 = some p) : isO A v0 10 = true := by unfold f_X10_mend at h; exact (ifN h).1
def b_X10_change (N : Nat) (A : LH) (v0 : Option Nat) (v1 : Int32) (v2 : Int32) : Option (Int32) :=
  (gR A v0 10 6).bind fun x1 => if x1 = none then some (-1 : Int32) else (gR A v0 10 6).bind fun x4 => (f_X1_changeAt N A x4 v1 v2).bind fun p6 => some p6
set_option maxRecDepth 4000 in
theorem wb_X10_change {g : GG} {n0 z0 : Nat} (N : Nat) {A : LH} {v0 : Option Nat} {v1 : Int32} {v2 : Int32} {p : Int32} (h : b_X10_change N A v0 v1 v2 = some p) : V g m_X10_change 3 n0 z0 (some (LI p)) A A 0 [some (LR v0), some (LI v1), some (LI v2)] [] := by
  unfold b_X10_change at h
  refine V.aload_n dX10_change_0 rfl rfl ?_
  obtain ⟨x1, h2, h⟩ := bnd h
  refine V.getF (gR_F h2) CF10 (Nat.le_of_ble_eq_true rfl) fl_RX10_50 dX10_change_1 ?_
  refine V.ifnonnull_ (tgt := 11) dX10_change_4 (by decide) (fun c9 => ?_) (fun c9 => ?_)
  · have h := (if_neg c9).symm.trans h
    refine V.aload_n dX10_change_11 rfl rfl ?_
    obtain ⟨x4, h5, h⟩ := bnd h
    refine V.getF (gR_F h5) CF10 (Nat.le_of_ble_eq_true rfl) fl_RX10_50 dX10_change_12 ?_
    refine V.iload_n dX10_change_15 rfl rfl ?_
    refine V.iload_n dX10_change_16 rfl rfl ?_
    obtain ⟨p6, h7, h⟩ := bnd h
    have w8 := w_X1_changeAt (g := g) N h7
    refine V.callVi (args := [LI v1, LI v2]) (st := []) w8.1 (oo_X1_changeAt h7) mk_X1_changeAt w8.2 vc_1 ml_RX10_204 im_X1_changeAt se_X1_changeAt rfl (Nat.le_of_ble_eq_true rfl) (by decide) rfl (Nat.le_of_ble_eq_true rfl) dX10_change_17 ?_
    obtain rfl := Option.some.inj h
    exact V.ireturn dX10_change_20
  · have h := (if_pos c9).symm.trans h
    refine V.iconst dX10_change_7 ki_m1 ?_
    refine V.goto (tgt := 20) dX10_change_8 (by decide) ?_
    obtain rfl := Option.some.inj h
    exact V.ireturn dX10_change_20
def f_X10_change (N : Nat) (A : LH) (v0 : Option Nat) (v1 : Int32) (v2 : Int32) : Option (Int32) := if isO A v0 10 = true then b_X10_change N A v0 v1 v2 else none
theorem w_X10_change {g : GG} (N : Nat) {A : LH} {v0 : Option Nat} {v1 : Int32} {v2 : Int32} {p : Int32} (h : f_X10_change N A v0 v1 v2 = some p) : Ct g m_X10_change 3 [LR v0, LI v1, LI v2] A (some (LI p)) A := by
  unfold f_X10_change at h
  obtain ⟨ho, h⟩ := ifN h
  exact ⟨wb_X10_change N h, rfl⟩
theorem oo_X10_change {N : Nat} {A : LH} {v0 : Option Nat} {v1 : Int32} {v2 : Int32} {p : Int32} (h : f_X10_change N A v0 v1 v2 = some p) : isO A v0 10 = true := by unfold f_X10_change at h; exact (ifN h).1
def b_X10_apply (N : Nat) (A : LH) (v0 : Option Nat) : Option (Int32 × LH) :=
  (gR A v0 10 6).bind fun x1 => if x1 = none then some ((-1 : Int32), A) else (gR A v0 10 6).bind fun x4 => (gI A x4 1 3).bind fun x6 => if x6 = 0 then some ((-1 : Int32), A) else (gR A v0 10 6).bind fun x9 => (gI A x9 1 0).bind fun x11 => (f_X10_rulesIn A v0 x11).bind fun p13 => if p13 = none then some ((-1 : Int32), A) else (gR A v0 10 6).bind fun x17 => (gI A x17 1 1).bind fun x19 => (gR A v0 10 6).bind fun x21 => (gI A x21 1 2).bind fun x23 => (f_X3_changed N A p13 x19 x23).bind fun p25 => (gR p25.2 v0 10 6).bind fun x28 => (gI p25.2 x28 1 0).bind fun x30 => (f_X10_putRules p25.2 v0 x30 p25.1).bind fun p32 => (gR p32 p25.1 3 1).bind fun x35 => (ln6 p32 x35).bind fun x37 => some (x37, p32)
set_option maxRecDepth 4000 in
theorem wb_X10_apply {g : GG} {n0 z0 : Nat} (N : Nat) {A : LH} {v0 : Option Nat} {p : Int32 × LH} (h : b_X10_apply N A v0 = some p) : V g m_X10_apply 5 n0 z0 (some (LI p.1)) p.2 A 0 [some (LR v0)] [] := by
  unfold b_X10_apply at h
  refine V.aload_n dX10_apply_0 rfl rfl ?_
  obtain ⟨x1, h2, h⟩ := bnd h
  refine V.getF (gR_F h2) CF10 (Nat.le_of_ble_eq_true rfl) fl_RX10_50 dX10_apply_1 ?_
  refine V.ifnull_ (tgt := 17) dX10_apply_4 (by decide) (fun c40 => ?_) (fun c40 => ?_)
  · have h := (if_pos c40).symm.trans h
    refine V.iconst dX10_apply_17 ki_m1 ?_
    obtain rfl := Option.some.inj h
    exact V.ireturn dX10_apply_18
  · have h := (if_neg c40).symm.trans h
    refine V.aload_n dX10_apply_7 rfl rfl ?_
    obtain ⟨x4, h5, h⟩ := bnd h
    refine V.getF (gR_F h5) CF10 (Nat.le_of_ble_eq_true rfl) fl_RX10_50 dX10_apply_8 ?_
    obtain ⟨x6, h7, h⟩ := bnd h
    refine V.getFN (gI_F h7) CF1 (Nat.le_of_ble_eq_true rfl) fl_RX10_207 dX10_apply_11 ?_
    refine V.if_ne (tgt := 19) dX10_apply_14 (by decide) (fun c8 => ?_) (fun c8 => ?_)
    · have h := (if_neg c8).symm.trans h
      refine V.aload_n dX10_apply_19 rfl rfl ?_
      refine V.aload_n dX10_apply_20 rfl rfl ?_
      obtain ⟨x9, h10, h⟩ := bnd h
      refine V.getF (gR_F h10) CF10 (Nat.le_of_ble_eq_true rfl) fl_RX10_50 dX10_apply_21 ?_
      obtain ⟨x11, h12, h⟩ := bnd h
      refine V.getFN (gI_F h12) CF1 (Nat.le_of_ble_eq_true rfl) fl_RX10_211 dX10_apply_24 ?_
      obtain ⟨p13, h14, h⟩ := bnd h
      have w15 := w_X10_rulesIn (g := g) h14
      refine V.callVr (args := [LI x11]) (st := []) w15.1 (oo_X10_rulesIn h14) mk_X10_rulesIn w15.2 vc_10 ml_RX10_121 im_X10_rulesIn se_X10_rulesIn rfl (Nat.le_of_ble_eq_true rfl) (by decide) rfl (Nat.le_of_ble_eq_true rfl) dX10_apply_27 ?_
      refine V.astore_n (ls' := [some (LR v0), some (LR p13)]) dX10_apply_30 rfl (by decide) rfl rfl ?_
      refine V.aload_n dX10_apply_31 rfl rfl ?_
      refine V.ifnonnull_ (tgt := 37) dX10_apply_32 (by decide) (fun c39 => ?_) (fun c39 => ?_)
      · have h := (if_neg c39).symm.trans h
        refine V.aload_n dX10_apply_37 rfl rfl ?_
        refine V.aload_n dX10_apply_38 rfl rfl ?_
        obtain ⟨x17, h18, h⟩ := bnd h
        refine V.getF (gR_F h18) CF10 (Nat.le_of_ble_eq_true rfl) fl_RX10_50 dX10_apply_39 ?_
        obtain ⟨x19, h20, h⟩ := bnd h
        refine V.getFN (gI_F h20) CF1 (Nat.le_of_ble_eq_true rfl) fl_RX10_214 dX10_apply_42 ?_
        refine V.aload_n dX10_apply_45 rfl rfl ?_
        obtain ⟨x21, h22, h⟩ := bnd h
        refine V.getF (gR_F h22) CF10 (Nat.le_of_ble_eq_true rfl) fl_RX10_50 dX10_apply_46 ?_
        obtain ⟨x23, h24, h⟩ := bnd h
        refine V.getFN (gI_F h24) CF1 (Nat.le_of_ble_eq_true rfl) fl_RX10_215 dX10_apply_49 ?_
        obtain ⟨p25, h26, h⟩ := bnd h
        have w27 := w_X3_changed (g := g) N h26
        refine V.callVr (args := [LI x19, LI x23]) (st := []) w27.1 (oo_X3_changed h26) mk_X3_changed w27.2 vc_3 ml_RX10_216 im_X3_changed se_X3_changed rfl (Nat.le_of_ble_eq_true rfl) (by decide) rfl (Nat.le_of_ble_eq_true rfl) dX10_apply_52 ?_
        refine V.astore_n (ls' := [some (LR v0), some (LR p13), some (LR p25.1)]) dX10_apply_55 rfl (by decide) rfl rfl ?_
        refine V.aload_n dX10_apply_56 rfl rfl ?_
        refine V.aload_n dX10_apply_57 rfl rfl ?_
        obtain ⟨x28, h29, h⟩ := bnd h
        refine V.getF (gR_F h29) CF10 (Nat.le_of_ble_eq_true rfl) fl_RX10_50 dX10_apply_58 ?_
        obtain ⟨x30, h31, h⟩ := bnd h
        refine V.getFN (gI_F h31) CF1 (Nat.le_of_ble_eq_true rfl) fl_RX10_211 dX10_apply_61 ?_
        refine V.aload_n dX10_apply_64 rfl rfl ?_
        obtain ⟨p32, h33, h⟩ := bnd h
        have w34 := w_X10_putRules (g := g) h33
        refine V.callVv (args := [LI x30, LR p25.1]) (st := []) w34.1 (oo_X10_putRules h33) mk_X10_putRules w34.2 vc_10 ml_RX10_80 im_X10_putRules se_X10_putRules rfl (Nat.le_of_ble_eq_true rfl) (by decide) rfl (Nat.le_of_ble_eq_true rfl) dX10_apply_65 ?_
        refine V.aload_n dX10_apply_68 rfl rfl ?_
        obtain ⟨x35, h36, h⟩ := bnd h
        refine V.getFN (gR_F h36) CF3 (Nat.le_of_ble_eq_true rfl) fl_RX10_84 dX10_apply_69 ?_
        obtain ⟨x37, h38, h⟩ := bnd h
        refine V.alen (ln6_l h38) (ln6_t h38) dX10_apply_72 ?_
        obtain rfl := Option.some.inj h
        exact V.ireturn dX10_apply_73
      · have h := (if_pos c39).symm.trans h
        refine V.iconst dX10_apply_35 ki_m1 ?_
        obtain rfl := Option.some.inj h
        exact V.ireturn dX10_apply_36
    · have h := (if_pos c8).symm.trans h
      refine V.iconst dX10_apply_17 ki_m1 ?_
      obtain rfl := Option.some.inj h
      exact V.ireturn dX10_apply_18
def f_X10_apply (N : Nat) (A : LH) (v0 : Option Nat) : Option (Int32 × LH) := if isO A v0 10 = true then b_X10_apply N A v0 else none
theorem w_X10_apply {g : GG} (N : Nat) {A : LH} {v0 : Option Nat} {p : Int32 × LH} (h : f_X10_apply N A v0 = some p) : Ct g m_X10_apply 5 [LR v0] A (some (LI p.1)) p.2 := by
  unfold f_X10_apply at h
  obtain ⟨ho, h⟩ := ifN h
  exact ⟨wb_X10_apply N h, rfl⟩
theorem oo_X10_apply {N : Nat} {A : LH} {v0 : Option Nat} {p : Int32 × LH} (h : f_X10_apply N A v0 = some p) : isO A v0 10 = true := by unfold f_X10_apply at h; exact (ifN h).1
def b_X10_line_22 (A : LH) (v3 : Int32) (s0 : Option Nat) : Option (Int32) :=
  if s0 = none then some (-1 : Int32) else (f_X0_part A s0 v3).bind fun p6 => some p6
set_option maxRecDepth 4000 in
theorem wb_X10_line_22 {g : GG} {n0 z0 : Nat} {A : LH} {v3 : Int32} {s0 : Option Nat} {p : Int32} (h : b_X10_line_22 A v3 s0 = some p) : V g m_X10_line 2 n0 z0 (some (LI p)) A A 22 [none, none, none, some (LI v3)] [LR s0] := by
  unfold b_X10_line_22 at h
  refine V.astore (ls' := [none, none, none, some (LI v3), none, some (LR s0)]) dX10_line_22 (by decide) rfl rfl ?_
  refine V.aload dX10_line_24 rfl ?_
  refine V.ifnonnull_ (tgt := 33) dX10_line_26 (by decide) (fun c9 => ?_) (fun c9 => ?_)
  · have h := (if_neg c9).symm.trans h
    refine V.aload dX10_line_33 rfl ?_
    refine V.iload_n dX10_line_35 rfl rfl ?_
    obtain ⟨p6, h7, h⟩ := bnd h
    have w8 := w_X0_part (g := g) h7
    refine V.callVi (args := [LI v3]) (st := []) w8.1 (oo_X0_part h7) mk_X0_part w8.2 vc_0 ml_RX10_220 im_X0_part se_X0_part rfl (Nat.le_of_ble_eq_true rfl) (by decide) rfl (Nat.le_of_ble_eq_true rfl) dX10_line_36 ?_
    obtain rfl := Option.some.inj h
    exact V.ireturn dX10_line_39
  · have h := (if_pos c9).symm.trans h
    refine V.iconst dX10_line_29 ki_m1 ?_
    refine V.goto (tgt := 39) dX10_line_30 (by decide) ?_
    obtain rfl := Option.some.inj h
    exact V.ireturn dX10_line_39
def b_X10_line (A : LH) (v0 : Option Nat) (v1 : Int32) (v2 : Int32) (v3 : Int32) : Option (Int32) :=
  (f_X10_rulesIn A v0 v1).bind fun p1 => if p1 = none then b_X10_line_22 A v3 none else (f_X3_lineAt A p1 v2).bind fun p10 => b_X10_line_22 A v3 p10
set_option maxRecDepth 4000 in
theorem wb_X10_line {g : GG} {n0 z0 : Nat} {A : LH} {v0 : Option Nat} {v1 : Int32} {v2 : Int32} {v3 : Int32} {p : Int32} (h : b_X10_line A v0 v1 v2 v3 = some p) : V g m_X10_line 2 n0 z0 (some (LI p)) A A 0 [some (LR v0), some (LI v1), some (LI v2), some (LI v3)] [] := by
  unfold b_X10_line at h
  refine V.aload_n dX10_line_0 rfl rfl ?_
  refine V.iload_n dX10_line_1 rfl rfl ?_
  obtain ⟨p1, h2, h⟩ := bnd h
  have w3 := w_X10_rulesIn (g := g) h2
  refine V.callVr (args := [LI v1]) (st := []) w3.1 (oo_X10_rulesIn h2) mk_X10_rulesIn w3.2 vc_10 ml_RX10_121 im_X10_rulesIn se_X10_rulesIn rfl (Nat.le_of_ble_eq_true rfl) (by decide) rfl (Nat.le_of_ble_eq_true rfl) dX10_line_2 ?_
  refine V.astore (ls' := [some (LR v0), some (LI v1), some (LI v2), some (LI v3), some (LR p1)]) dX10_line_5 (by decide) rfl rfl ?_
  refine V.aload dX10_line_7 rfl ?_
  refine V.ifnonnull_ (tgt := 16) dX10_line_9 (by decide) (fun c13 => ?_) (fun c13 => ?_)
  · have h := (if_neg c13).symm.trans h
    refine V.aload dX10_line_16 rfl ?_
    refine V.iload_n dX10_line_18 rfl rfl ?_
    obtain ⟨p10, h11, h⟩ := bnd h
    have w12 := w_X3_lineAt (g := g) h11
    refine V.callVr (args := [LI v2]) (st := []) w12.1 (oo_X3_lineAt h11) mk_X3_lineAt w12.2 vc_3 ml_RX10_151 im_X3_lineAt se_X3_lineAt rfl (Nat.le_of_ble_eq_true rfl) (by decide) rfl (Nat.le_of_ble_eq_true rfl) dX10_line_19 ?_
    refine V.weak [false, false, false, true] ?_
    exact wb_X10_line_22 h
  · have h := (if_pos c13).symm.trans h
    refine V.null dX10_line_12 ?_
    refine V.goto (tgt := 22) dX10_line_13 (by decide) ?_
    refine V.weak [false, false, false, true] ?_
    exact wb_X10_line_22 h
def f_X10_line (A : LH) (v0 : Option Nat) (v1 : Int32) (v2 : Int32) (v3 : Int32) : Option (Int32) := if isO A v0 10 = true then b_X10_line A v0 v1 v2 v3 else none
theorem w_X10_line {g : GG} {A : LH} {v0 : Option Nat} {v1 : Int32} {v2 : Int32} {v3 : Int32} {p : Int32} (h : f_X10_line A v0 v1 v2 v3 = some p) : Ct g m_X10_line 2 [LR v0, LI v1, LI v2, LI v3] A (some (LI p)) A := by
  unfold f_X10_line at h
  obtain ⟨ho, h⟩ := ifN h
  exact ⟨wb_X10_line h, rfl⟩
theorem oo_X10_line {A : LH} {v0 : Option Nat} {v1 : Int32} {v2 : Int32} {v3 : Int32} {p : Int32} (h : f_X10_line A v0 v1 v2 v3 = some p) : isO A v0 10 = true := by unfold f_X10_line at h; exact (ifN h).1
def b_X10_countOfSlot_30 (A : LH) (v1 : Int32) (s0 : Int32) (s1 : Option Nat) : Option (Int32) :=
  (f_X10_rulesIn A s1 s0).bind fun p4 => if p4 = none then some (-1 : Int32) else if (8 : Int32) ≤ v1 then (gI A p4 3 0).bind fun x9 => some x9 else (gR A p4 3 1).bind fun x11 => (ln6 A x11).bind fun x13 => some x13
set_option maxRecDepth 4000 in
theorem wb_X10_countOfSlot_30 {g : GG} {n0 z0 : Nat} {A : LH} {v1 : Int32} {s0 : Int32} {s1 : Option Nat} {p : Int32} (h : b_X10_countOfSlot_30 A v1 s0 s1 = some p) : V g m_X10_countOfSlot 2 n0 z0 (some (LI p)) A A 30 [none, some (LI v1)] [LI s0, LR s1] := by
  unfold b_X10_countOfSlot_30 at h
  obtain ⟨p4, h5, h⟩ := bnd h
  have w6 := w_X10_rulesIn (g := g) h5
  refine V.callVr (args := [LI s0]) (st := []) w6.1 (oo_X10_rulesIn h5) mk_X10_rulesIn w6.2 vc_10 ml_RX10_121 im_X10_rulesIn se_X10_rulesIn rfl (Nat.le_of_ble_eq_true rfl) (by decide) rfl (Nat.le_of_ble_eq_true rfl) dX10_countOfSlot_30 ?_
  refine V.astore_n (ls' := [none, some (LI v1), some (LR p4)]) dX10_countOfSlot_33 rfl (by decide) rfl rfl ?_
  refine V.aload_n dX10_countOfSlot_34 rfl rfl ?_
  refine V.ifnonnull_ (tgt := 40) dX10_countOfSlot_35 (by decide) (fun c15 => ?_) (fun c15 => ?_)
  · have h := (if_neg c15).symm.trans h
    refine V.iload_n dX10_countOfSlot_40 rfl rfl ?_
    refine V.bipush dX10_countOfSlot_41 kb_8 ?_
    refine V.icmp_ge (tgt := 54) dX10_countOfSlot_43 (by decide) (fun c8 => ?_) (fun c8 => ?_)
    · have h := (if_pos c8).symm.trans h
      refine V.aload_n dX10_countOfSlot_54 rfl rfl ?_
      obtain ⟨x9, h10, h⟩ := bnd h
      refine V.getFN (gI_F h10) CF3 (Nat.le_of_ble_eq_true rfl) fl_RX10_235 dX10_countOfSlot_55 ?_
      obtain rfl := Option.some.inj h
      exact V.ireturn dX10_countOfSlot_58
    · have h := (if_neg c8).symm.trans h
      refine V.aload_n dX10_countOfSlot_46 rfl rfl ?_
      obtain ⟨x11, h12, h⟩ := bnd h
      refine V.getFN (gR_F h12) CF3 (Nat.le_of_ble_eq_true rfl) fl_RX10_84 dX10_countOfSlot_47 ?_
      obtain ⟨x13, h14, h⟩ := bnd h
      refine V.alen (ln6_l h14) (ln6_t h14) dX10_countOfSlot_50 ?_
      refine V.goto (tgt := 58) dX10_countOfSlot_51 (by decide) ?_
      obtain rfl := Option.some.inj h
      exact V.ireturn dX10_countOfSlot_58
  · have h := (if_pos c15).symm.trans h
    refine V.iconst dX10_countOfSlot_38 ki_m1 ?_
    obtain rfl := Option.some.inj h
    exact V.ireturn dX10_countOfSlot_39
def b_X10_countOfSlot (A : LH) (v0 : Option Nat) (v1 : Int32) : Option (Int32) :=
  if v1 < (4 : Int32) then some (-1 : Int32) else if v1 ≤ (11 : Int32) then if (8 : Int32) ≤ v1 then b_X10_countOfSlot_30 A v1 (v1 - (8 : Int32)) v0 else b_X10_countOfSlot_30 A v1 (v1 - (4 : Int32)) v0 else some (-1 : Int32)
set_option maxRecDepth 4000 in
theorem wb_X10_countOfSlot {g : GG} {n0 z0 : Nat} {A : LH} {v0 : Option Nat} {v1 : Int32} {p : Int32} (h : b_X10_countOfSlot A v0 v1 = some p) : V g m_X10_countOfSlot 2 n0 z0 (some (LI p)) A A 0 [some (LR v0), some (LI v1)] [] := by
  unfold b_X10_countOfSlot at h
  refine V.iload_n dX10_countOfSlot_0 rfl rfl ?_
  refine V.iconst dX10_countOfSlot_1 ki_4 ?_
  refine V.icmp_lt (tgt := 11) dX10_countOfSlot_2 (by decide) (fun c1 => ?_) (fun c1 => ?_)
  · have h := (if_pos c1).symm.trans h
    refine V.iconst dX10_countOfSlot_11 ki_m1 ?_
    obtain rfl := Option.some.inj h
    exact V.ireturn dX10_countOfSlot_12
  · have h := (if_neg c1).symm.trans h
    refine V.iload_n dX10_countOfSlot_5 rfl rfl ?_
    refine V.bipush dX10_countOfSlot_6 kb_11 ?_
    refine V.icmp_le (tgt := 13) dX10_countOfSlot_8 (by decide) (fun c2 => ?_) (fun c2 => ?_)
    · have h := (if_pos c2).symm.trans h
      refine V.aload_n dX10_countOfSlot_13 rfl rfl ?_
      refine V.iload_n dX10_countOfSlot_14 rfl rfl ?_
      refine V.bipush dX10_countOfSlot_15 kb_8 ?_
      refine V.icmp_ge (tgt := 26) dX10_countOfSlot_17 (by decide) (fun c3 => ?_) (fun c3 => ?_)
      · have h := (if_pos c3).symm.trans h
        refine V.iload_n dX10_countOfSlot_26 rfl rfl ?_
        refine V.bipush dX10_countOfSlot_27 kb_8 ?_
        refine V.isub dX10_countOfSlot_29 ?_
        refine V.weak [false, true] ?_
        exact wb_X10_countOfSlot_30 h
      · have h := (if_neg c3).symm.trans h
        refine V.iload_n dX10_countOfSlot_20 rfl rfl ?_
        refine V.iconst dX10_countOfSlot_21 ki_4 ?_
        refine V.isub dX10_countOfSlot_22 ?_
        refine V.goto (tgt := 30) dX10_countOfSlot_23 (by decide) ?_
        refine V.weak [false, true] ?_
        exact wb_X10_countOfSlot_30 h
    · have h := (if_neg c2).symm.trans h
      refine V.iconst dX10_countOfSlot_11 ki_m1 ?_
      obtain rfl := Option.some.inj h
      exact V.ireturn dX10_countOfSlot_12
def f_X10_countOfSlot (A : LH) (v0 : Option Nat) (v1 : Int32) : Option (Int32) := if isO A v0 10 = true then b_X10_countOfSlot A v0 v1 else none
theorem w_X10_countOfSlot {g : GG} {A : LH} {v0 : Option Nat} {v1 : Int32} {p : Int32} (h : f_X10_countOfSlot A v0 v1 = some p) : Ct g m_X10_countOfSlot 2 [LR v0, LI v1] A (some (LI p)) A := by
  unfold f_X10_countOfSlot at h
  obtain ⟨ho, h⟩ := ifN h
  exact ⟨wb_X10_countOfSlot h, rfl⟩
theorem oo_X10_countOfSlot {A : LH} {v0 : Option Nat} {v1 : Int32} {p : Int32} (h : f_X10_countOfSlot A v0 v1 = some p) : isO A v0 10 = true := by unfold f_X10_countOfSlot at h; exact (ifN h).1
def b_X10_count (N : Nat) (A : LH) (v0 : Option Nat) (v1 : Int32) : Option (Int32) :=
  if v1 = 0 then (gR A v0 10 2).bind fun x2 => (gR A x2 8 0).bind fun x4 => (gI A x4 5 3).bind fun x6 => some x6 else if v1 = 1 then (gR A v0 10 2).bind fun x9 => (gR A x9 8 1).bind fun x11 => (gI A x11 5 3).bind fun x13 => some x13 else if v1 = 2 then (gR A v0 10 2).bind fun x16 => (gR A x16 8 2).bind fun x18 => (gI A x18 5 3).bind fun x20 => some x20 else if v1 = 3 then (gR A v0 10 2).bind fun x23 => (f_X8_marked N A x23).bind fun p25 => some p25 else (f_X10_countOfSlot A v0 v1).bind fun p28 => some p28
set_option maxRecDepth 4000 in
theorem wb_X10_count {g : GG} {n0 z0 : Nat} (N : Nat) {A : LH} {v0 : Option Nat} {v1 : Int32} {p : Int32} (h : b_X10_count N A v0 v1 = some p) : V g m_X10_count 4 n0 z0 (some (LI p)) A A 0 [some (LR v0), some (LI v1)] [] := by
  unfold b_X10_count at h
  refine V.iload_n dX10_count_0 rfl rfl ?_
  by_cases c1 : v1 = 0
  · have h := (if_pos c1).symm.trans h
    refine V.tableIn (tgt := 32) (off := 31) dX10_count_1 (by rw [c1]; decide) (by rw [c1]; decide) (by rw [c1]; decide) (by decide) ?_
    refine V.aload_n dX10_count_32 rfl rfl ?_
    obtain ⟨x2, h3, h⟩ := bnd h
    refine V.getF (gR_F h3) CF10 (Nat.le_of_ble_eq_true rfl) fl_RX10_28 dX10_count_33 ?_
    obtain ⟨x4, h5, h⟩ := bnd h
    refine V.getFN (gR_F h5) CF8 (Nat.le_of_ble_eq_true rfl) fl_RX10_93 dX10_count_36 ?_
    obtain ⟨x6, h7, h⟩ := bnd h
    refine V.getFN (gI_F h7) CF5 (Nat.le_of_ble_eq_true rfl) fl_RX10_144 dX10_count_39 ?_
    obtain rfl := Option.some.inj h
    exact V.ireturn dX10_count_42
  have h := (if_neg c1).symm.trans h
  by_cases c8 : v1 = 1
  · have h := (if_pos c8).symm.trans h
    refine V.tableIn (tgt := 43) (off := 42) dX10_count_1 (by rw [c8]; decide) (by rw [c8]; decide) (by rw [c8]; decide) (by decide) ?_
    refine V.aload_n dX10_count_43 rfl rfl ?_
    obtain ⟨x9, h10, h⟩ := bnd h
    refine V.getF (gR_F h10) CF10 (Nat.le_of_ble_eq_true rfl) fl_RX10_28 dX10_count_44 ?_
    obtain ⟨x11, h12, h⟩ := bnd h
    refine V.getFN (gR_F h12) CF8 (Nat.le_of_ble_eq_true rfl) fl_RX10_114 dX10_count_47 ?_
    obtain ⟨x13, h14, h⟩ := bnd h
    refine V.getFN (gI_F h14) CF5 (Nat.le_of_ble_eq_true rfl) fl_RX10_144 dX10_count_50 ?_
    obtain rfl := Option.some.inj h
    exact V.ireturn dX10_count_53
  have h := (if_neg c8).symm.trans h
  by_cases c15 : v1 = 2
  · have h := (if_pos c15).symm.trans h
    refine V.tableIn (tgt := 54) (off := 53) dX10_count_1 (by rw [c15]; decide) (by rw [c15]; decide) (by rw [c15]; decide) (by decide) ?_
    refine V.aload_n dX10_count_54 rfl rfl ?_
    obtain ⟨x16, h17, h⟩ := bnd h
    refine V.getF (gR_F h17) CF10 (Nat.le_of_ble_eq_true rfl) fl_RX10_28 dX10_count_55 ?_
    obtain ⟨x18, h19, h⟩ := bnd h
    refine V.getFN (gR_F h19) CF8 (Nat.le_of_ble_eq_true rfl) fl_RX10_141 dX10_count_58 ?_
    obtain ⟨x20, h21, h⟩ := bnd h
    refine V.getFN (gI_F h21) CF5 (Nat.le_of_ble_eq_true rfl) fl_RX10_144 dX10_count_61 ?_
    obtain rfl := Option.some.inj h
    exact V.ireturn dX10_count_64
  have h := (if_neg c15).symm.trans h
  by_cases c22 : v1 = 3
  · have h := (if_pos c22).symm.trans h
    refine V.tableIn (tgt := 65) (off := 64) dX10_count_1 (by rw [c22]; decide) (by rw [c22]; decide) (by rw [c22]; decide) (by decide) ?_
    refine V.aload_n dX10_count_65 rfl rfl ?_
    obtain ⟨x23, h24, h⟩ := bnd h
    refine V.getF (gR_F h24) CF10 (Nat.le_of_ble_eq_true rfl) fl_RX10_28 dX10_count_66 ?_
    obtain ⟨p25, h26, h⟩ := bnd h
    have w27 := w_X8_marked (g := g) N h26
    refine V.callVi (args := []) (st := []) w27.1 (oo_X8_marked h26) mk_X8_marked w27.2 vc_8 ml_RX10_225 im_X8_marked se_X8_marked rfl (Nat.le_of_ble_eq_true rfl) (by decide) rfl (Nat.le_of_ble_eq_true rfl) dX10_count_69 ?_
    obtain rfl := Option.some.inj h
    exact V.ireturn dX10_count_72
  have h := (if_neg c22).symm.trans h
  refine V.tableOut (tgt := 73) dX10_count_1 (sw_out (n := 4) [0, 1, 2, 3] (by decide) (List.forall_mem_cons.mpr ⟨c1, List.forall_mem_cons.mpr ⟨c8, List.forall_mem_cons.mpr ⟨c15, List.forall_mem_cons.mpr ⟨c22, fun _ z => nomatch z⟩⟩⟩⟩)) (by decide) ?_
  refine V.aload_n dX10_count_73 rfl rfl ?_
  refine V.iload_n dX10_count_74 rfl rfl ?_
  obtain ⟨p28, h29, h⟩ := bnd h
  have w30 := w_X10_countOfSlot (g := g) h29
  refine V.callVi (args := [LI v1]) (st := []) w30.1 (oo_X10_countOfSlot h29) mk_X10_countOfSlot w30.2 vc_10 ml_RX10_228 im_X10_countOfSlot se_X10_countOfSlot rfl (Nat.le_of_ble_eq_true rfl) (by decide) rfl (Nat.le_of_ble_eq_true rfl) dX10_count_75 ?_
  obtain rfl := Option.some.inj h
  exact V.ireturn dX10_count_78
def f_X10_count (N : Nat) (A : LH) (v0 : Option Nat) (v1 : Int32) : Option (Int32) := if isO A v0 10 = true then b_X10_count N A v0 v1 else none
theorem w_X10_count {g : GG} (N : Nat) {A : LH} {v0 : Option Nat} {v1 : Int32} {p : Int32} (h : f_X10_count N A v0 v1 = some p) : Ct g m_X10_count 4 [LR v0, LI v1] A (some (LI p)) A := by
  unfold f_X10_count at h
  obtain ⟨ho, h⟩ := ifN h
  exact ⟨wb_X10_count N h, rfl⟩
theorem oo_X10_count {N : Nat} {A : LH} {v0 : Option Nat} {v1 : Int32} {p : Int32} (h : f_X10_count N A v0 v1 = some p) : isO A v0 10 = true := by unfold f_X10_count at h; exact (ifN h).1
def b_X10_image_32 (N : Nat) (A : LH) (v0 : Option Nat) (v1 : Int32) : Option (Int32 × LH) :=
  (gR A v0 10 3).bind fun x17 => (aR A x17 5 v1).bind fun x19 => (gR A v0 10 2).bind fun x21 => (f_X8_copyFrom N A x19 x21).bind fun p23 => some ((1 : Int32), p23)
set_option maxRecDepth 4000 in
theorem wb_X10_image_32 {g : GG} {n0 z0 : Nat} (N : Nat) {A : LH} {v0 : Option Nat} {v1 : Int32} {p : Int32 × LH} (h : b_X10_image_32 N A v0 v1 = some p) : V g m_X10_image 5 n0 z0 (some (LI p.1)) p.2 A 32 [some (LR v0), some (LI v1)] [] := by
  unfold b_X10_image_32 at h
  refine V.aload_n dX10_image_32 rfl rfl ?_
  obtain ⟨x17, h18, h⟩ := bnd h
  refine V.getF (gR_F h18) CF10 (Nat.le_of_ble_eq_true rfl) fl_RX10_32 dX10_image_33 ?_
  refine V.iload_n dX10_image_36 rfl rfl ?_
  obtain ⟨x19, h20, h⟩ := bnd h
  refine V.aald h20 rfl dX10_image_37 ?_
  refine V.aload_n dX10_image_38 rfl rfl ?_
  obtain ⟨x21, h22, h⟩ := bnd h
  refine V.getF (gR_F h22) CF10 (Nat.le_of_ble_eq_true rfl) fl_RX10_28 dX10_image_39 ?_
  obtain ⟨p23, h24, h⟩ := bnd h
  have w25 := w_X8_copyFrom (g := g) N h24
  refine V.callVv (args := [LR x21]) (st := []) w25.1 (oo_X8_copyFrom h24) mk_X8_copyFrom w25.2 vc_8 ml_RX10_231 im_X8_copyFrom se_X8_copyFrom rfl (Nat.le_of_ble_eq_true rfl) (by decide) rfl (Nat.le_of_ble_eq_true rfl) dX10_image_42 ?_
  refine V.iconst dX10_image_45 ki_1 ?_
  obtain rfl := Option.some.inj h
  exact V.ireturn dX10_image_46
def b_X10_image (N : Nat) (A : LH) (v0 : Option Nat) (v1 : Int32) : Option (Int32 × LH) :=
  (f_X10_isIn v1 (3 : Int32)).bind fun p1 => if p1 = 0 then some ((0 : Int32), A) else (gR A v0 10 3).bind fun x5 => (aR A x5 5 v1).bind fun x7 => if x7 = none then (gR A v0 10 3).bind fun x10 => (f_X8_init N (al A (.inr (8, [LR none, LR none, LR none, LR none])) 4) (some (8 + hn A))).bind fun p12 => (sR p12 x10 5 8 v1 (some (8 + hn A))).bind fun A15 => b_X10_image_32 N A15 v0 v1 else b_X10_image_32 N A v0 v1
set_option maxRecDepth 4000 in
theorem wb_X10_image {g : GG} {n0 z0 : Nat} (N : Nat) {A : LH} {v0 : Option Nat} {v1 : Int32} {p : Int32 × LH} (h : b_X10_image N A v0 v1 = some p) : V g m_X10_image 5 n0 z0 (some (LI p.1)) p.2 A 0 [some (LR v0), some (LI v1)] [] := by
  unfold b_X10_image at h
  refine V.iload_n dX10_image_0 rfl rfl ?_
  refine V.iconst dX10_image_1 ki_3 ?_
  obtain ⟨p1, h2, h⟩ := bnd h
  have w3 := w_X10_isIn (g := g) (A := A) h2
  refine V.callSi (args := [LI v1, LI (3 : Int32)]) (st := []) w3.1 mk_X10_isIn w3.2 ml_RX10_68 sm_X10_isIn rfl (Nat.le_of_ble_eq_true rfl) (by decide) rfl (Nat.le_of_ble_eq_true rfl) dX10_image_2 ?_
  refine V.if_ne (tgt := 10) dX10_image_5 (by decide) (fun c4 => ?_) (fun c4 => ?_)
  · have h := (if_neg c4).symm.trans h
    refine V.aload_n dX10_image_10 rfl rfl ?_
    obtain ⟨x5, h6, h⟩ := bnd h
    refine V.getF (gR_F h6) CF10 (Nat.le_of_ble_eq_true rfl) fl_RX10_32 dX10_image_11 ?_
    refine V.iload_n dX10_image_14 rfl rfl ?_
    obtain ⟨x7, h8, h⟩ := bnd h
    refine V.aald h8 rfl dX10_image_15 ?_
    refine V.ifnonnull_ (tgt := 32) dX10_image_16 (by decide) (fun c26 => ?_) (fun c26 => ?_)
    · have h := (if_neg c26).symm.trans h
      refine V.weak [true, true] ?_
      exact wb_X10_image_32 N h
    · have h := (if_pos c26).symm.trans h
      refine V.aload_n dX10_image_19 rfl rfl ?_
      obtain ⟨x10, h11, h⟩ := bnd h
      refine V.getF (gR_F h11) CF10 (Nat.le_of_ble_eq_true rfl) fl_RX10_32 dX10_image_20 ?_
      refine V.iload_n dX10_image_23 rfl rfl ?_
      refine V.new CF8 okT8 cl_RX10_25 in_8 ii_8 (fs := [LR none, LR none, LR none, LR none]) rfl dX10_image_24 ?_
      refine V.dup dX10_image_27 rfl ?_
      obtain ⟨p12, h13, h⟩ := bnd h
      have w14 := w_X8_init (g := g) N h13
      refine V.callI (args := []) (st := [LR (some (8 + hn A)), LI v1, LR x10]) w14.1 (oo_X8_init h13) mk_X8_init rfl ml_RX10_27 im_X8_init rfl rfl (Nat.le_of_ble_eq_true rfl) (by decide) rfl (Nat.le_of_ble_eq_true rfl) dX10_image_28 ?_
      obtain ⟨A15, h16, h⟩ := bnd h
      refine V.aast h16 rfl rfl dX10_image_31 ?_
      refine V.weak [true, true] ?_
      exact wb_X10_image_32 N h
  · have h := (if_pos c4).symm.trans h
    refine V.iconst dX10_image_8 ki_0 ?_
    obtain rfl := Option.some.inj h
    exact V.ireturn dX10_image_9
def f_X10_image (N : Nat) (A : LH) (v0 : Option Nat) (v1 : Int32) : Option (Int32 × LH) := if isO A v0 10 = true then zc (b_X10_image N A v0 v1) else none
theorem w_X10_image {g : GG} (N : Nat) {A : LH} {v0 : Option Nat} {v1 : Int32} {p : Int32 × LH} (h : f_X10_image N A v0 v1 = some p) : Ct g m_X10_image 5 [LR v0, LI v1] A (some (LI p.1)) p.2 := by
  unfold f_X10_image at h
  obtain ⟨ho, h⟩ := ifN h
  obtain ⟨h, hz⟩ := zc_sp h
  exact ⟨wb_X10_image N h, (RTz hz)⟩
theorem oo_X10_image {N : Nat} {A : LH} {v0 : Option Nat} {v1 : Int32} {p : Int32 × LH} (h : f_X10_image N A v0 v1 = some p) : isO A v0 10 = true := by unfold f_X10_image at h; exact (ifN h).1
def b_X10_again (N : Nat) (A : LH) (v0 : Option Nat) (v1 : Int32) : Option (Int32 × LH) :=
  (f_X10_isIn v1 (3 : Int32)).bind fun p1 => if p1 = 0 then some ((0 : Int32), A) else (gR A v0 10 3).bind fun x5 => (aR A x5 5 v1).bind fun x7 => if x7 = none then some ((0 : Int32), A) else (gR A v0 10 2).bind fun x10 => (gR A v0 10 3).bind fun x12 => (aR A x12 5 v1).bind fun x14 => (f_X8_copyFrom N A x10 x14).bind fun p16 => (pF p16 v0 10 6 (LR none)).bind fun A19 => some ((1 : Int32), A19)
set_option maxRecDepth 4000 in
theorem wb_X10_again {g : GG} {n0 z0 : Nat} (N : Nat) {A : LH} {v0 : Option Nat} {v1 : Int32} {p : Int32 × LH} (h : b_X10_again N A v0 v1 = some p) : V g m_X10_again 3 n0 z0 (some (LI p.1)) p.2 A 0 [some (LR v0), some (LI v1)] [] := by
  unfold b_X10_again at h
  refine V.iload_n dX10_again_0 rfl rfl ?_
  refine V.iconst dX10_again_1 ki_3 ?_
  obtain ⟨p1, h2, h⟩ := bnd h
  have w3 := w_X10_isIn (g := g) (A := A) h2
  refine V.callSi (args := [LI v1, LI (3 : Int32)]) (st := []) w3.1 mk_X10_isIn w3.2 ml_RX10_68 sm_X10_isIn rfl (Nat.le_of_ble_eq_true rfl) (by decide) rfl (Nat.le_of_ble_eq_true rfl) dX10_again_2 ?_
  refine V.if_eq (tgt := 17) dX10_again_5 (by decide) (fun c4 => ?_) (fun c4 => ?_)
  · have h := (if_pos c4).symm.trans h
    refine V.iconst dX10_again_17 ki_0 ?_
    obtain rfl := Option.some.inj h
    exact V.ireturn dX10_again_18
  · have h := (if_neg c4).symm.trans h
    refine V.aload_n dX10_again_8 rfl rfl ?_
    obtain ⟨x5, h6, h⟩ := bnd h
    refine V.getF (gR_F h6) CF10 (Nat.le_of_ble_eq_true rfl) fl_RX10_32 dX10_again_9 ?_
    refine V.iload_n dX10_again_12 rfl rfl ?_
    obtain ⟨x7, h8, h⟩ := bnd h
    refine V.aald h8 rfl dX10_again_13 ?_
    refine V.ifnonnull_ (tgt := 19) dX10_again_14 (by decide) (fun c21 => ?_) (fun c21 => ?_)
    · have h := (if_neg c21).symm.trans h
      refine V.aload_n dX10_again_19 rfl rfl ?_
      obtain ⟨x10, h11, h⟩ := bnd h
      refine V.getF (gR_F h11) CF10 (Nat.le_of_ble_eq_true rfl) fl_RX10_28 dX10_again_20 ?_
      refine V.aload_n dX10_again_23 rfl rfl ?_
      obtain ⟨x12, h13, h⟩ := bnd h
      refine V.getF (gR_F h13) CF10 (Nat.le_of_ble_eq_true rfl) fl_RX10_32 dX10_again_24 ?_
      refine V.iload_n dX10_again_27 rfl rfl ?_
      obtain ⟨x14, h15, h⟩ := bnd h
      refine V.aald h15 rfl dX10_again_28 ?_
      obtain ⟨p16, h17, h⟩ := bnd h
      have w18 := w_X8_copyFrom (g := g) N h17
      refine V.callVv (args := [LR x14]) (st := []) w18.1 (oo_X8_copyFrom h17) mk_X8_copyFrom w18.2 vc_8 ml_RX10_231 im_X8_copyFrom se_X8_copyFrom rfl (Nat.le_of_ble_eq_true rfl) (by decide) rfl (Nat.le_of_ble_eq_true rfl) dX10_again_29 ?_
      refine V.aload_n dX10_again_32 rfl rfl ?_
      refine V.null dX10_again_33 ?_
      obtain ⟨A19, h20, h⟩ := bnd h
      refine V.putF h20 (nrR _ rfl) (ftR _ rfl) rfl CF10 (Nat.le_of_ble_eq_true rfl) fl_RX10_50 dX10_again_34 ?_
      refine V.iconst dX10_again_37 ki_1 ?_
      obtain rfl := Option.some.inj h
      exact V.ireturn dX10_again_38
    · have h := (if_pos c21).symm.trans h
      refine V.iconst dX10_again_17 ki_0 ?_
      obtain rfl := Option.some.inj h
      exact V.ireturn dX10_again_18
def f_X10_again (N : Nat) (A : LH) (v0 : Option Nat) (v1 : Int32) : Option (Int32 × LH) := if isO A v0 10 = true then zc (b_X10_again N A v0 v1) else none
theorem w_X10_again {g : GG} (N : Nat) {A : LH} {v0 : Option Nat} {v1 : Int32} {p : Int32 × LH} (h : f_X10_again N A v0 v1 = some p) : Ct g m_X10_again 3 [LR v0, LI v1] A (some (LI p.1)) p.2 := by
  unfold f_X10_again at h
  obtain ⟨ho, h⟩ := ifN h
  obtain ⟨h, hz⟩ := zc_sp h
  exact ⟨wb_X10_again N h, (RTz hz)⟩
theorem oo_X10_again {N : Nat} {A : LH} {v0 : Option Nat} {v1 : Int32} {p : Int32 × LH} (h : f_X10_again N A v0 v1 = some p) : isO A v0 10 = true := by unfold f_X10_again at h; exact (ifN h).1
