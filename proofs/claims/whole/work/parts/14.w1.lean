def b_X7_init (A : LH) (v0 : Option Nat) (v1 : Option Nat) : Option (LH) :=
  (pF A v0 7 0 (LR v1)).bind fun A1 => (nI_ A1 0 (601 : Int32)).bind fun A3 => (pF A3 v0 7 1 (LR (some (8 + hn A1)))).bind fun A5 => (nI_ A5 0 (601 : Int32)).bind fun A7 => (pF A7 v0 7 2 (LR (some (8 + hn A5)))).bind fun A9 => (nI_ A9 0 (601 : Int32)).bind fun A11 => (pF A11 v0 7 3 (LR (some (8 + hn A9)))).bind fun A13 => (pF A13 v0 7 4 (LI (0 : Int32))).bind fun A15 => (pF A15 v0 7 5 (LI (0 : Int32))).bind fun A17 => (pF A17 v0 7 6 (LI (0 : Int32))).bind fun A19 => (pF A19 v0 7 7 (LI (0 : Int32))).bind fun A21 => (pF A21 v0 7 8 (LI (0 : Int32))).bind fun A23 => some A23
set_option maxRecDepth 4000 in
theorem wb_X7_init {g : GG} {n0 z0 : Nat} {A : LH} {v0 : Option Nat} {v1 : Option Nat} {p : LH} (ho : isO A v0 7 = true) (h : b_X7_init A v0 v1 = some p) : V g m_X7_init 1 n0 z0 none p A 0 [some (LR v0), some (LR v1)] [] := by
  unfold b_X7_init at h
  refine V.aload_n dX7_init_0 rfl rfl ?_
  refine V.objI ho ml_RX7_3 im_obj co_obj (by decide) (Nat.le_of_ble_eq_true rfl) dX7_init_1 ?_
  refine V.aload_n dX7_init_4 rfl rfl ?_
  refine V.aload_n dX7_init_5 rfl rfl ?_
  obtain ⟨A1, h2, h⟩ := bnd h
  refine V.putFF h2 (nrR _ rfl) (ftR _ rfl) rfl rfl rfl CF7 (Nat.le_of_ble_eq_true rfl) fl_RX7_9 dX7_init_6 ?_
  refine V.aload_n dX7_init_9 rfl rfl ?_
  refine V.sipush dX7_init_10 ks_601 ?_
  obtain ⟨A3, h4, h⟩ := bnd h
  refine V.newa (ty := .int) h4 rfl rfl rfl (fun _ z => z) (by decide) ac_0 dX7_init_13 ?_
  obtain ⟨A5, h6, h⟩ := bnd h
  refine V.putFF h6 (nrR _ rfl) (ftR _ rfl) rfl rfl rfl CF7 (Nat.le_of_ble_eq_true rfl) fl_RX7_15 dX7_init_15 ?_
  refine V.aload_n dX7_init_18 rfl rfl ?_
  refine V.sipush dX7_init_19 ks_601 ?_
  obtain ⟨A7, h8, h⟩ := bnd h
  refine V.newa (ty := .int) h8 rfl rfl rfl (fun _ z => z) (by decide) ac_0 dX7_init_22 ?_
  obtain ⟨A9, h10, h⟩ := bnd h
  refine V.putFF h10 (nrR _ rfl) (ftR _ rfl) rfl rfl rfl CF7 (Nat.le_of_ble_eq_true rfl) fl_RX7_19 dX7_init_24 ?_
  refine V.aload_n dX7_init_27 rfl rfl ?_
  refine V.sipush dX7_init_28 ks_601 ?_
  obtain ⟨A11, h12, h⟩ := bnd h
  refine V.newa (ty := .int) h12 rfl rfl rfl (fun _ z => z) (by decide) ac_0 dX7_init_31 ?_
  obtain ⟨A13, h14, h⟩ := bnd h
  refine V.putFF h14 (nrR _ rfl) (ftR _ rfl) rfl rfl rfl CF7 (Nat.le_of_ble_eq_true rfl) fl_RX7_22 dX7_init_33 ?_
  refine V.aload_n dX7_init_36 rfl rfl ?_
  refine V.iconst dX7_init_37 ki_0 ?_
  obtain ⟨A15, h16, h⟩ := bnd h
  refine V.putF h16 rfl rfl rfl CF7 (Nat.le_of_ble_eq_true rfl) fl_RX7_25 dX7_init_38 ?_
  refine V.aload_n dX7_init_41 rfl rfl ?_
  refine V.iconst dX7_init_42 ki_0 ?_
  obtain ⟨A17, h18, h⟩ := bnd h
  refine V.putF h18 rfl rfl rfl CF7 (Nat.le_of_ble_eq_true rfl) fl_RX7_29 dX7_init_43 ?_
  refine V.aload_n dX7_init_46 rfl rfl ?_
  refine V.iconst dX7_init_47 ki_0 ?_
  obtain ⟨A19, h20, h⟩ := bnd h
  refine V.putF h20 rfl rfl rfl CF7 (Nat.le_of_ble_eq_true rfl) fl_RX7_32 dX7_init_48 ?_
  refine V.aload_n dX7_init_51 rfl rfl ?_
  refine V.iconst dX7_init_52 ki_0 ?_
  obtain ⟨A21, h22, h⟩ := bnd h
  refine V.putF h22 rfl rfl rfl CF7 (Nat.le_of_ble_eq_true rfl) fl_RX7_35 dX7_init_53 ?_
  refine V.aload_n dX7_init_56 rfl rfl ?_
  refine V.iconst dX7_init_57 ki_0 ?_
  obtain ⟨A23, h24, h⟩ := bnd h
  refine V.putF h24 rfl rfl rfl CF7 (Nat.le_of_ble_eq_true rfl) fl_RX7_38 dX7_init_58 ?_
  obtain rfl := Option.some.inj h
  exact V.return_ dX7_init_61
def f_X7_init (A : LH) (v0 : Option Nat) (v1 : Option Nat) : Option (LH) := if isO A v0 7 = true then b_X7_init A v0 v1 else none
theorem w_X7_init {g : GG} {A : LH} {v0 : Option Nat} {v1 : Option Nat} {p : LH} (h : f_X7_init A v0 v1 = some p) : Ct g m_X7_init 1 [LR v0, LR v1] A none p := by
  unfold f_X7_init at h
  obtain ⟨ho, h⟩ := ifN h
  exact ⟨wb_X7_init ho h, trivial⟩
theorem oo_X7_init {A : LH} {v0 : Option Nat} {v1 : Option Nat} {p : LH} (h : f_X7_init A v0 v1 = some p) : isO A v0 7 = true := by unfold f_X7_init at h; exact (ifN h).1
def b_X7_add (A : LH) (v0 : Option Nat) (v1 : Int32) (v2 : Int32) (v3 : Int32) : Option (LH) :=
  (gI A v0 7 4).bind fun x1 => (gR A v0 7 1).bind fun x3 => (ln6 A x3).bind fun x5 => (f_X10_isIn x1 x5).bind fun p7 => if p7 = 0 then some A else (gR A v0 7 1).bind fun x11 => (gI A v0 7 4).bind fun x13 => (sI A x11 0 x13 v1).bind fun A15 => (gR A15 v0 7 2).bind fun x17 => (gI A15 v0 7 4).bind fun x19 => (sI A15 x17 0 x19 v2).bind fun A21 => (gR A21 v0 7 3).bind fun x23 => (gI A21 v0 7 4).bind fun x25 => (sI A21 x23 0 x25 v3).bind fun A27 => (gI A27 v0 7 4).bind fun x29 => (pF A27 v0 7 4 (LI (x29 + (1 : Int32)))).bind fun A31 => some A31
set_option maxRecDepth 4000 in
theorem wb_X7_add {g : GG} {n0 z0 : Nat} {A : LH} {v0 : Option Nat} {v1 : Int32} {v2 : Int32} {v3 : Int32} {p : LH} (h : b_X7_add A v0 v1 v2 v3 = some p) : V g m_X7_add 1 n0 z0 none p A 0 [some (LR v0), some (LI v1), some (LI v2), some (LI v3)] [] := by
  unfold b_X7_add at h
  refine V.aload_n dX7_add_0 rfl rfl ?_
  obtain ⟨x1, h2, h⟩ := bnd h
  refine V.getF (gI_F h2) CF7 (Nat.le_of_ble_eq_true rfl) fl_RX7_25 dX7_add_1 ?_
  refine V.aload_n dX7_add_4 rfl rfl ?_
  obtain ⟨x3, h4, h⟩ := bnd h
  refine V.getF (gR_F h4) CF7 (Nat.le_of_ble_eq_true rfl) fl_RX7_15 dX7_add_5 ?_
  obtain ⟨x5, h6, h⟩ := bnd h
  refine V.alen (ln6_l h6) (ln6_t h6) dX7_add_8 ?_
  obtain ⟨p7, h8, h⟩ := bnd h
  have w9 := w_X10_isIn (g := g) (A := A) h8
  refine V.callSNi (args := [LI x1, LI x5]) (st := []) w9.1 mk_X10_isIn w9.2 ml_RX7_64 sm_X10_isIn rfl (Nat.le_of_ble_eq_true rfl) (by decide) rfl (Nat.le_of_ble_eq_true rfl) dX7_add_9 ?_
  refine V.if_eq (tgt := 55) dX7_add_12 (by decide) (fun c10 => ?_) (fun c10 => ?_)
  · have h := (if_pos c10).symm.trans h
    obtain rfl := Option.some.inj h
    exact V.return_ dX7_add_55
  · have h := (if_neg c10).symm.trans h
    refine V.aload_n dX7_add_15 rfl rfl ?_
    obtain ⟨x11, h12, h⟩ := bnd h
    refine V.getF (gR_F h12) CF7 (Nat.le_of_ble_eq_true rfl) fl_RX7_15 dX7_add_16 ?_
    refine V.aload_n dX7_add_19 rfl rfl ?_
    obtain ⟨x13, h14, h⟩ := bnd h
    refine V.getF (gI_F h14) CF7 (Nat.le_of_ble_eq_true rfl) fl_RX7_25 dX7_add_20 ?_
    refine V.iload_n dX7_add_23 rfl rfl ?_
    obtain ⟨A15, h16, h⟩ := bnd h
    refine V.iast h16 dX7_add_24 ?_
    refine V.aload_n dX7_add_25 rfl rfl ?_
    obtain ⟨x17, h18, h⟩ := bnd h
    refine V.getF (gR_F h18) CF7 (Nat.le_of_ble_eq_true rfl) fl_RX7_19 dX7_add_26 ?_
    refine V.aload_n dX7_add_29 rfl rfl ?_
    obtain ⟨x19, h20, h⟩ := bnd h
    refine V.getF (gI_F h20) CF7 (Nat.le_of_ble_eq_true rfl) fl_RX7_25 dX7_add_30 ?_
    refine V.iload_n dX7_add_33 rfl rfl ?_
    obtain ⟨A21, h22, h⟩ := bnd h
    refine V.iast h22 dX7_add_34 ?_
    refine V.aload_n dX7_add_35 rfl rfl ?_
    obtain ⟨x23, h24, h⟩ := bnd h
    refine V.getF (gR_F h24) CF7 (Nat.le_of_ble_eq_true rfl) fl_RX7_22 dX7_add_36 ?_
    refine V.aload_n dX7_add_39 rfl rfl ?_
    obtain ⟨x25, h26, h⟩ := bnd h
    refine V.getF (gI_F h26) CF7 (Nat.le_of_ble_eq_true rfl) fl_RX7_25 dX7_add_40 ?_
    refine V.iload_n dX7_add_43 rfl rfl ?_
    obtain ⟨A27, h28, h⟩ := bnd h
    refine V.iast h28 dX7_add_44 ?_
    refine V.aload_n dX7_add_45 rfl rfl ?_
    refine V.dup dX7_add_46 rfl ?_
    obtain ⟨x29, h30, h⟩ := bnd h
    refine V.getF (gI_F h30) CF7 (Nat.le_of_ble_eq_true rfl) fl_RX7_25 dX7_add_47 ?_
    refine V.iconst dX7_add_50 ki_1 ?_
    refine V.iadd dX7_add_51 ?_
    obtain ⟨A31, h32, h⟩ := bnd h
    refine V.putF h32 rfl rfl rfl CF7 (Nat.le_of_ble_eq_true rfl) fl_RX7_25 dX7_add_52 ?_
    obtain rfl := Option.some.inj h
    exact V.return_ dX7_add_55
def f_X7_add (A : LH) (v0 : Option Nat) (v1 : Int32) (v2 : Int32) (v3 : Int32) : Option (LH) := if isO A v0 7 = true then b_X7_add A v0 v1 v2 v3 else none
theorem w_X7_add {g : GG} {A : LH} {v0 : Option Nat} {v1 : Int32} {v2 : Int32} {v3 : Int32} {p : LH} (h : f_X7_add A v0 v1 v2 v3 = some p) : Ct g m_X7_add 1 [LR v0, LI v1, LI v2, LI v3] A none p := by
  unfold f_X7_add at h
  obtain ⟨ho, h⟩ := ifN h
  exact ⟨wb_X7_add h, trivial⟩
theorem oo_X7_add {A : LH} {v0 : Option Nat} {v1 : Int32} {v2 : Int32} {v3 : Int32} {p : LH} (h : f_X7_add A v0 v1 v2 v3 = some p) : isO A v0 7 = true := by unfold f_X7_add at h; exact (ifN h).1
def b_X7_addNumber_20 (N : Nat) (k20 : LH → Option Nat → Int32 → Int32 → Int32 → Int32 → Option (LH)) (A : LH) (v0 : Option Nat) (v1 : Int32) (v2 : Int32) (v3 : Int32) (v4 : Int32) : Option (LH) :=
  if v2 ≤ v4 then (f_X7_add A v0 (1 : Int32) v3 v1).bind fun p3 => some p3 else (gR A v0 7 0).bind fun x6 => (f_X6_at A x6 v4).bind fun p8 => k20 A v0 v1 v2 (((v3 * (10 : Int32)) + p8) - (48 : Int32)) (v4 + (1 : Int32))
set_option maxRecDepth 4000 in
theorem wb_X7_addNumber_20 {g : GG} {n0 z0 : Nat} (N : Nat) {k20 : LH → Option Nat → Int32 → Int32 → Int32 → Int32 → Option (LH)} {A : LH} {v0 : Option Nat} {v1 : Int32} {v2 : Int32} {v3 : Int32} {v4 : Int32} {p : LH} (hk20 : ∀ {A : LH} {v0 : Option Nat} {v1 : Int32} {v2 : Int32} {v3 : Int32} {v4 : Int32} {p : LH}, k20 A v0 v1 v2 v3 v4 = some p → V g m_X7_addNumber 2 n0 z0 none p A 20 [some (LR v0), some (LI v1), some (LI v2), some (LI v3), some (LI v4)] []) (h : b_X7_addNumber_20 N k20 A v0 v1 v2 v3 v4 = some p) : V g m_X7_addNumber 2 n0 z0 none p A 20 [some (LR v0), some (LI v1), some (LI v2), some (LI v3), some (LI v4)] [] := by
  unfold b_X7_addNumber_20 at h
  refine V.iload dX7_addNumber_20 rfl ?_
  refine V.iload_n dX7_addNumber_22 rfl rfl ?_
  refine V.icmp_ge (tgt := 50) dX7_addNumber_23 (by decide) (fun c2 => ?_) (fun c2 => ?_)
  · have h := (if_pos c2).symm.trans h
    refine V.aload_n dX7_addNumber_50 rfl rfl ?_
    refine V.iconst dX7_addNumber_51 ki_1 ?_
    refine V.iload_n dX7_addNumber_52 rfl rfl ?_
    refine V.iload_n dX7_addNumber_53 rfl rfl ?_
    obtain ⟨p3, h4, h⟩ := bnd h
    have w5 := w_X7_add (g := g) h4
    refine V.callVv (args := [LI (1 : Int32), LI v3, LI v1]) (st := []) w5.1 (oo_X7_add h4) mk_X7_add w5.2 vc_7 ml_RX7_57 im_X7_add se_X7_add rfl (Nat.le_of_ble_eq_true rfl) (by decide) rfl (Nat.le_of_ble_eq_true rfl) dX7_addNumber_54 ?_
    obtain rfl := Option.some.inj h
    exact V.return_ dX7_addNumber_57
  · have h := (if_neg c2).symm.trans h
    refine V.iload_n dX7_addNumber_26 rfl rfl ?_
    refine V.bipush dX7_addNumber_27 kb_10 ?_
    refine V.imul dX7_addNumber_29 ?_
    refine V.aload_n dX7_addNumber_30 rfl rfl ?_
    obtain ⟨x6, h7, h⟩ := bnd h
    refine V.getF (gR_F h7) CF7 (Nat.le_of_ble_eq_true rfl) fl_RX7_9 dX7_addNumber_31 ?_
    refine V.iload dX7_addNumber_34 rfl ?_
    obtain ⟨p8, h9, h⟩ := bnd h
    have w10 := w_X6_at (g := g) h9
    refine V.callVi (args := [LI v4]) (st := [LI (v3 * (10 : Int32))]) w10.1 (oo_X6_at h9) mk_X6_at w10.2 vc_6 ml_RX7_46 im_X6_at se_X6_at rfl (Nat.le_of_ble_eq_true rfl) (by decide) rfl (Nat.le_of_ble_eq_true rfl) dX7_addNumber_36 ?_
    refine V.iadd dX7_addNumber_39 ?_
    refine V.bipush dX7_addNumber_40 kb_48 ?_
    refine V.isub dX7_addNumber_42 ?_
    refine V.istore_n (ls' := [some (LR v0), some (LI v1), some (LI v2), some (LI (((v3 * (10 : Int32)) + p8) - (48 : Int32))), some (LI v4)]) dX7_addNumber_43 rfl (by decide) rfl rfl ?_
    refine V.iinc (ls' := [some (LR v0), some (LI v1), some (LI v2), some (LI (((v3 * (10 : Int32)) + p8) - (48 : Int32))), some (LI (v4 + (1 : Int32)))]) dX7_addNumber_44 rfl ki_1 (by decide) rfl rfl ?_
    refine V.goto (tgt := 20) dX7_addNumber_47 (by decide) ?_
    refine V.weak [true, true, true, true, true] ?_
    exact hk20 h
def l_X7_addNumber_20 (N : Nat) : Nat → LH → Option Nat → Int32 → Int32 → Int32 → Int32 → Option (LH)
  | 0, _, _, _, _, _, _ => none
  | n + 1, A, v0, v1, v2, v3, v4 => b_X7_addNumber_20 N (l_X7_addNumber_20 N n) A v0 v1 v2 v3 v4
theorem wl_X7_addNumber_20 {g : GG} {n0 z0 : Nat} (N : Nat) : ∀ (n : Nat) {A : LH} {v0 : Option Nat} {v1 : Int32} {v2 : Int32} {v3 : Int32} {v4 : Int32} {p : LH}, l_X7_addNumber_20 N n A v0 v1 v2 v3 v4 = some p → V g m_X7_addNumber 2 n0 z0 none p A 20 [some (LR v0), some (LI v1), some (LI v2), some (LI v3), some (LI v4)] []
  | 0, _, _, _, _, _, _, _, h => nomatch h
  | n + 1, _, _, _, _, _, _, _, h => wb_X7_addNumber_20 N (wl_X7_addNumber_20 N n) h
def b_X7_addNumber (N : Nat) (A : LH) (v0 : Option Nat) (v1 : Int32) (v2 : Int32) : Option (LH) :=
  if (v2 - v1) ≤ (3 : Int32) then l_X7_addNumber_20 N N A v0 v1 v2 (0 : Int32) v1 else (f_X7_add A v0 (2 : Int32) (0 : Int32) v1).bind fun p11 => some p11
set_option maxRecDepth 4000 in
theorem wb_X7_addNumber {g : GG} {n0 z0 : Nat} (N : Nat) {A : LH} {v0 : Option Nat} {v1 : Int32} {v2 : Int32} {p : LH} (h : b_X7_addNumber N A v0 v1 v2 = some p) : V g m_X7_addNumber 2 n0 z0 none p A 0 [some (LR v0), some (LI v1), some (LI v2)] [] := by
  unfold b_X7_addNumber at h
  refine V.iload_n dX7_addNumber_0 rfl rfl ?_
  refine V.iload_n dX7_addNumber_1 rfl rfl ?_
  refine V.isub dX7_addNumber_2 ?_
  refine V.iconst dX7_addNumber_3 ki_3 ?_
  refine V.icmp_le (tgt := 15) dX7_addNumber_4 (by decide) (fun c1 => ?_) (fun c1 => ?_)
  · have h := (if_pos c1).symm.trans h
    refine V.iconst dX7_addNumber_15 ki_0 ?_
    refine V.istore_n (ls' := [some (LR v0), some (LI v1), some (LI v2), some (LI (0 : Int32))]) dX7_addNumber_16 rfl (by decide) rfl rfl ?_
    refine V.iload_n dX7_addNumber_17 rfl rfl ?_
    refine V.istore (ls' := [some (LR v0), some (LI v1), some (LI v2), some (LI (0 : Int32)), some (LI v1)]) dX7_addNumber_18 (by decide) rfl rfl ?_
    refine V.weak [true, true, true, true, true] ?_
    exact wl_X7_addNumber_20 N N h
  · have h := (if_neg c1).symm.trans h
    refine V.aload_n dX7_addNumber_7 rfl rfl ?_
    refine V.iconst dX7_addNumber_8 ki_2 ?_
    refine V.iconst dX7_addNumber_9 ki_0 ?_
    refine V.iload_n dX7_addNumber_10 rfl rfl ?_
    obtain ⟨p11, h12, h⟩ := bnd h
    have w13 := w_X7_add (g := g) h12
    refine V.callVv (args := [LI (2 : Int32), LI (0 : Int32), LI v1]) (st := []) w13.1 (oo_X7_add h12) mk_X7_add w13.2 vc_7 ml_RX7_57 im_X7_add se_X7_add rfl (Nat.le_of_ble_eq_true rfl) (by decide) rfl (Nat.le_of_ble_eq_true rfl) dX7_addNumber_11 ?_
    obtain rfl := Option.some.inj h
    exact V.return_ dX7_addNumber_14
def f_X7_addNumber (N : Nat) (A : LH) (v0 : Option Nat) (v1 : Int32) (v2 : Int32) : Option (LH) := if isO A v0 7 = true then b_X7_addNumber N A v0 v1 v2 else none
theorem w_X7_addNumber {g : GG} (N : Nat) {A : LH} {v0 : Option Nat} {v1 : Int32} {v2 : Int32} {p : LH} (h : f_X7_addNumber N A v0 v1 v2 = some p) : Ct g m_X7_addNumber 2 [LR v0, LI v1, LI v2] A none p := by
  unfold f_X7_addNumber at h
  obtain ⟨ho, h⟩ := ifN h
  exact ⟨wb_X7_addNumber N h, trivial⟩
theorem oo_X7_addNumber {N : Nat} {A : LH} {v0 : Option Nat} {v1 : Int32} {v2 : Int32} {p : LH} (h : f_X7_addNumber N A v0 v1 v2 = some p) : isO A v0 7 = true := by unfold f_X7_addNumber at h; exact (ifN h).1
def b_X7_isDigit (v0 : Int32) : Option (Int32) :=
  if v0 < (48 : Int32) then some (0 : Int32) else if (57 : Int32) < v0 then some (0 : Int32) else some (1 : Int32)
set_option maxRecDepth 4000 in
theorem wb_X7_isDigit {g : GG} {n0 z0 : Nat} {A : LH} {v0 : Int32} {p : Int32} (h : b_X7_isDigit v0 = some p) : V g m_X7_isDigit 0 n0 z0 (some (LI p)) A A 0 [some (LI v0)] [] := by
  unfold b_X7_isDigit at h
  refine V.iload_n dX7_isDigit_0 rfl rfl ?_
  refine V.bipush dX7_isDigit_1 kb_48 ?_
  refine V.icmp_lt (tgt := 16) dX7_isDigit_3 (by decide) (fun c1 => ?_) (fun c1 => ?_)
  · have h := (if_pos c1).symm.trans h
    refine V.iconst dX7_isDigit_16 ki_0 ?_
    obtain rfl := Option.some.inj h
    exact V.ireturn dX7_isDigit_17
  · have h := (if_neg c1).symm.trans h
    refine V.iload_n dX7_isDigit_6 rfl rfl ?_
    refine V.bipush dX7_isDigit_7 kb_57 ?_
    refine V.icmp_gt (tgt := 16) dX7_isDigit_9 (by decide) (fun c2 => ?_) (fun c2 => ?_)
    · have h := (if_pos c2).symm.trans h
      refine V.iconst dX7_isDigit_16 ki_0 ?_
      obtain rfl := Option.some.inj h
      exact V.ireturn dX7_isDigit_17
    · have h := (if_neg c2).symm.trans h
      refine V.iconst dX7_isDigit_12 ki_1 ?_
      refine V.goto (tgt := 17) dX7_isDigit_13 (by decide) ?_
      obtain rfl := Option.some.inj h
      exact V.ireturn dX7_isDigit_17
def f_X7_isDigit (v0 : Int32) : Option (Int32) := zd (b_X7_isDigit v0)
theorem w_X7_isDigit {g : GG} {A : LH} {v0 : Int32} {p : Int32} (h : f_X7_isDigit v0 = some p) : Ct g m_X7_isDigit 0 [LI v0] A (some (LI p)) A := by
  unfold f_X7_isDigit at h
  obtain ⟨h, hz⟩ := zd_sp h
  exact ⟨wb_X7_isDigit h, (RTz hz)⟩
def b_X7_isLetter (v0 : Int32) : Option (Int32) :=
  if v0 < (97 : Int32) then some (0 : Int32) else if (122 : Int32) < v0 then some (0 : Int32) else some (1 : Int32)
set_option maxRecDepth 4000 in
theorem wb_X7_isLetter {g : GG} {n0 z0 : Nat} {A : LH} {v0 : Int32} {p : Int32} (h : b_X7_isLetter v0 = some p) : V g m_X7_isLetter 0 n0 z0 (some (LI p)) A A 0 [some (LI v0)] [] := by
  unfold b_X7_isLetter at h
  refine V.iload_n dX7_isLetter_0 rfl rfl ?_
  refine V.bipush dX7_isLetter_1 kb_97 ?_
  refine V.icmp_lt (tgt := 16) dX7_isLetter_3 (by decide) (fun c1 => ?_) (fun c1 => ?_)
  · have h := (if_pos c1).symm.trans h
    refine V.iconst dX7_isLetter_16 ki_0 ?_
    obtain rfl := Option.some.inj h
    exact V.ireturn dX7_isLetter_17
  · have h := (if_neg c1).symm.trans h
    refine V.iload_n dX7_isLetter_6 rfl rfl ?_
    refine V.bipush dX7_isLetter_7 kb_122 ?_
    refine V.icmp_gt (tgt := 16) dX7_isLetter_9 (by decide) (fun c2 => ?_) (fun c2 => ?_)
    · have h := (if_pos c2).symm.trans h
      refine V.iconst dX7_isLetter_16 ki_0 ?_
      obtain rfl := Option.some.inj h
      exact V.ireturn dX7_isLetter_17
    · have h := (if_neg c2).symm.trans h
      refine V.iconst dX7_isLetter_12 ki_1 ?_
      refine V.goto (tgt := 17) dX7_isLetter_13 (by decide) ?_
      obtain rfl := Option.some.inj h
      exact V.ireturn dX7_isLetter_17
def f_X7_isLetter (v0 : Int32) : Option (Int32) := zd (b_X7_isLetter v0)
theorem w_X7_isLetter {g : GG} {A : LH} {v0 : Int32} {p : Int32} (h : f_X7_isLetter v0 = some p) : Ct g m_X7_isLetter 0 [LI v0] A (some (LI p)) A := by
  unfold f_X7_isLetter at h
  obtain ⟨h, hz⟩ := zd_sp h
  exact ⟨wb_X7_isLetter h, (RTz hz)⟩
def b_X7_isSign (v0 : Int32) : Option (Int32) :=
  if v0 = (59 : Int32) then some (1 : Int32) else if v0 = (40 : Int32) then some (1 : Int32) else if v0 = (41 : Int32) then some (1 : Int32) else if v0 = (60 : Int32) then some (1 : Int32) else if v0 = (61 : Int32) then some (1 : Int32) else if v0 = (62 : Int32) then some (1 : Int32) else some (0 : Int32)
set_option maxRecDepth 4000 in
theorem wb_X7_isSign {g : GG} {n0 z0 : Nat} {A : LH} {v0 : Int32} {p : Int32} (h : b_X7_isSign v0 = some p) : V g m_X7_isSign 0 n0 z0 (some (LI p)) A A 0 [some (LI v0)] [] := by
  unfold b_X7_isSign at h
  refine V.iload_n dX7_isSign_0 rfl rfl ?_
  refine V.bipush dX7_isSign_1 kb_59 ?_
  refine V.icmp_eq (tgt := 36) dX7_isSign_3 (by decide) (fun c1 => ?_) (fun c1 => ?_)
  · have h := (if_pos c1).symm.trans h
    refine V.iconst dX7_isSign_36 ki_1 ?_
    refine V.goto (tgt := 41) dX7_isSign_37 (by decide) ?_
    obtain rfl := Option.some.inj h
    exact V.ireturn dX7_isSign_41
  · have h := (if_neg c1).symm.trans h
    refine V.iload_n dX7_isSign_6 rfl rfl ?_
    refine V.bipush dX7_isSign_7 kb_40 ?_
    refine V.icmp_eq (tgt := 36) dX7_isSign_9 (by decide) (fun c2 => ?_) (fun c2 => ?_)
    · have h := (if_pos c2).symm.trans h
      refine V.iconst dX7_isSign_36 ki_1 ?_
      refine V.goto (tgt := 41) dX7_isSign_37 (by decide) ?_
      obtain rfl := Option.some.inj h
      exact V.ireturn dX7_isSign_41
    · have h := (if_neg c2).symm.trans h
      refine V.iload_n dX7_isSign_12 rfl rfl ?_
      refine V.bipush dX7_isSign_13 kb_41 ?_
      refine V.icmp_eq (tgt := 36) dX7_isSign_15 (by decide) (fun c3 => ?_) (fun c3 => ?_)
      · have h := (if_pos c3).symm.trans h
        refine V.iconst dX7_isSign_36 ki_1 ?_
        refine V.goto (tgt := 41) dX7_isSign_37 (by decide) ?_
        obtain rfl := Option.some.inj h
        exact V.ireturn dX7_isSign_41
      · have h := (if_neg c3).symm.trans h
        refine V.iload_n dX7_isSign_18 rfl rfl ?_
        refine V.bipush dX7_isSign_19 kb_60 ?_
        refine V.icmp_eq (tgt := 36) dX7_isSign_21 (by decide) (fun c4 => ?_) (fun c4 => ?_)
        · have h := (if_pos c4).symm.trans h
          refine V.iconst dX7_isSign_36 ki_1 ?_
          refine V.goto (tgt := 41) dX7_isSign_37 (by decide) ?_
          obtain rfl := Option.some.inj h
          exact V.ireturn dX7_isSign_41
        · have h := (if_neg c4).symm.trans h
          refine V.iload_n dX7_isSign_24 rfl rfl ?_
          refine V.bipush dX7_isSign_25 kb_61 ?_
          refine V.icmp_eq (tgt := 36) dX7_isSign_27 (by decide) (fun c5 => ?_) (fun c5 => ?_)
          · have h := (if_pos c5).symm.trans h
            refine V.iconst dX7_isSign_36 ki_1 ?_
            refine V.goto (tgt := 41) dX7_isSign_37 (by decide) ?_
            obtain rfl := Option.some.inj h
            exact V.ireturn dX7_isSign_41
          · have h := (if_neg c5).symm.trans h
            refine V.iload_n dX7_isSign_30 rfl rfl ?_
            refine V.bipush dX7_isSign_31 kb_62 ?_
            refine V.icmp_ne (tgt := 40) dX7_isSign_33 (by decide) (fun c6 => ?_) (fun c6 => ?_)
            · have h := (if_neg c6).symm.trans h
              refine V.iconst dX7_isSign_40 ki_0 ?_
              obtain rfl := Option.some.inj h
              exact V.ireturn dX7_isSign_41
            · have h := (if_pos c6).symm.trans h
              refine V.iconst dX7_isSign_36 ki_1 ?_
              refine V.goto (tgt := 41) dX7_isSign_37 (by decide) ?_
              obtain rfl := Option.some.inj h
              exact V.ireturn dX7_isSign_41
def f_X7_isSign (v0 : Int32) : Option (Int32) := zd (b_X7_isSign v0)
theorem w_X7_isSign {g : GG} {A : LH} {v0 : Int32} {p : Int32} (h : f_X7_isSign v0 = some p) : Ct g m_X7_isSign 0 [LI v0] A (some (LI p)) A := by
  unfold f_X7_isSign at h
  obtain ⟨h, hz⟩ := zd_sp h
  exact ⟨wb_X7_isSign h, (RTz hz)⟩
def b_X7_kindOfWord_84 (N : Nat) (A : LH) (k13 : Option Nat → Int32 → Int32 → Int32 → Int32 → Int32 → Int32 → Option (Int32)) (v0 : Option Nat) (v1 : Int32) (v2 : Int32) (v3 : Int32) (v6 : Int32) : Option (Int32) :=
  k13 v0 v1 v2 (v3 + (1 : Int32)) v1 (1 : Int32) (v6 + (1 : Int32))
set_option maxRecDepth 4000 in
theorem wb_X7_kindOfWord_84 {g : GG} {n0 z0 : Nat} (N : Nat) {k13 : Option Nat → Int32 → Int32 → Int32 → Int32 → Int32 → Int32 → Option (Int32)} {A : LH} {v0 : Option Nat} {v1 : Int32} {v2 : Int32} {v3 : Int32} {v6 : Int32} {p : Int32} (hk13 : ∀ {v0 : Option Nat} {v1 : Int32} {v2 : Int32} {v3 : Int32} {v4 : Int32} {v5 : Int32} {v6 : Int32} {p : Int32}, k13 v0 v1 v2 v3 v4 v5 v6 = some p → V g m_X7_kindOfWord 4 n0 z0 (some (LI p)) A A 13 [some (LR v0), some (LI v1), some (LI v2), some (LI v3), some (LI v4), some (LI v5), some (LI v6)] []) (h : b_X7_kindOfWord_84 N A k13 v0 v1 v2 v3 v6 = some p) : V g m_X7_kindOfWord 4 n0 z0 (some (LI p)) A A 84 [some (LR v0), some (LI v1), some (LI v2), some (LI v3), none, none, some (LI v6)] [] := by
  unfold b_X7_kindOfWord_84 at h
  refine V.iinc (ls' := [some (LR v0), some (LI v1), some (LI v2), some (LI (v3 + (1 : Int32))), none, none, some (LI v6)]) dX7_kindOfWord_84 rfl ki_1 (by decide) rfl rfl ?_
  refine V.iload_n dX7_kindOfWord_87 rfl rfl ?_
  refine V.istore (ls' := [some (LR v0), some (LI v1), some (LI v2), some (LI (v3 + (1 : Int32))), some (LI v1), none, some (LI v6)]) dX7_kindOfWord_88 (by decide) rfl rfl ?_
  refine V.iconst dX7_kindOfWord_90 ki_1 ?_
  refine V.istore (ls' := [some (LR v0), some (LI v1), some (LI v2), some (LI (v3 + (1 : Int32))), some (LI v1), some (LI (1 : Int32)), some (LI v6)]) dX7_kindOfWord_91 (by decide) rfl rfl ?_
  refine V.iinc (ls' := [some (LR v0), some (LI v1), some (LI v2), some (LI (v3 + (1 : Int32))), some (LI v1), some (LI (1 : Int32)), some (LI (v6 + (1 : Int32)))]) dX7_kindOfWord_93 rfl ki_1 (by decide) rfl rfl ?_
  refine V.goto (tgt := 13) dX7_kindOfWord_96 (by decide) ?_
  refine V.weak [true, true, true, true, true, true, true] ?_
  exact hk13 h
def b_X7_kindOfWord_13 (N : Nat) (A : LH) (k13 : Option Nat → Int32 → Int32 → Int32 → Int32 → Int32 → Int32 → Option (Int32)) (v0 : Option Nat) (v1 : Int32) (v2 : Int32) (v3 : Int32) (v4 : Int32) (v5 : Int32) (v6 : Int32) : Option (Int32) :=
  (s_len (some 3)).bind fun x1 => if x1 ≤ v6 then some (2 : Int32) else (s_at (some 3) v6).bind fun x4 => if x4 = (32 : Int32) then if v5 = 0 then b_X7_kindOfWord_84 N A k13 v0 v1 v2 v3 v6 else if v4 = v2 then some v3 else b_X7_kindOfWord_84 N A k13 v0 v1 v2 v3 v6 else if v5 = 0 then k13 v0 v1 v2 v3 (v4 + (1 : Int32)) (0 : Int32) (v6 + (1 : Int32)) else (gR A v0 7 0).bind fun x10 => (f_X6_at A x10 v4).bind fun p12 => if p12 = x4 then k13 v0 v1 v2 v3 (v4 + (1 : Int32)) (1 : Int32) (v6 + (1 : Int32)) else k13 v0 v1 v2 v3 (v4 + (1 : Int32)) (0 : Int32) (v6 + (1 : Int32))
set_option maxRecDepth 4000 in
theorem wb_X7_kindOfWord_13 {g : GG} {n0 z0 : Nat} (N : Nat) {k13 : Option Nat → Int32 → Int32 → Int32 → Int32 → Int32 → Int32 → Option (Int32)} {A : LH} {v0 : Option Nat} {v1 : Int32} {v2 : Int32} {v3 : Int32} {v4 : Int32} {v5 : Int32} {v6 : Int32} {p : Int32} (hk13 : ∀ {v0 : Option Nat} {v1 : Int32} {v2 : Int32} {v3 : Int32} {v4 : Int32} {v5 : Int32} {v6 : Int32} {p : Int32}, k13 v0 v1 v2 v3 v4 v5 v6 = some p → V g m_X7_kindOfWord 4 n0 z0 (some (LI p)) A A 13 [some (LR v0), some (LI v1), some (LI v2), some (LI v3), some (LI v4), some (LI v5), some (LI v6)] []) (h : b_X7_kindOfWord_13 N A k13 v0 v1 v2 v3 v4 v5 v6 = some p) : V g m_X7_kindOfWord 4 n0 z0 (some (LI p)) A A 13 [some (LR v0), some (LI v1), some (LI v2), some (LI v3), some (LI v4), some (LI v5), some (LI v6)] [] := by
  unfold b_X7_kindOfWord_13 at h
  refine V.iload dX7_kindOfWord_13 rfl ?_
  refine V.ldcS rfl dX7_kindOfWord_15 ?_
  obtain ⟨x1, h2, h⟩ := bnd h
  refine V.s_len h2 ml_RX7_87 (by decide) (Nat.le_of_ble_eq_true rfl) dX7_kindOfWord_17 ?_
  refine V.icmp_ge (tgt := 99) dX7_kindOfWord_20 (by decide) (fun c3 => ?_) (fun c3 => ?_)
  · have h := (if_pos c3).symm.trans h
    refine V.iconst dX7_kindOfWord_99 ki_2 ?_
    obtain rfl := Option.some.inj h
    exact V.ireturn dX7_kindOfWord_100
  · have h := (if_neg c3).symm.trans h
    refine V.ldcS rfl dX7_kindOfWord_23 ?_
    refine V.iload dX7_kindOfWord_25 rfl ?_
    obtain ⟨x4, h5, h⟩ := bnd h
    refine V.s_at h5 ml_RX7_92 (by decide) (Nat.le_of_ble_eq_true rfl) dX7_kindOfWord_27 ?_
    refine V.istore (ls' := [some (LR v0), some (LI v1), some (LI v2), some (LI v3), some (LI v4), some (LI v5), some (LI v6), some (LI x4)]) dX7_kindOfWord_30 (by decide) rfl rfl ?_
    refine V.iload dX7_kindOfWord_32 rfl ?_
    refine V.bipush dX7_kindOfWord_34 kb_32 ?_
    refine V.icmp_eq (tgt := 71) dX7_kindOfWord_36 (by decide) (fun c6 => ?_) (fun c6 => ?_)
    · have h := (if_pos c6).symm.trans h
      refine V.iload dX7_kindOfWord_71 rfl ?_
      refine V.if_eq (tgt := 84) dX7_kindOfWord_73 (by decide) (fun c7 => ?_) (fun c7 => ?_)
      · have h := (if_pos c7).symm.trans h
        refine V.weak [true, true, true, true, false, false, true] ?_
        exact wb_X7_kindOfWord_84 N hk13 h
      · have h := (if_neg c7).symm.trans h
        refine V.iload dX7_kindOfWord_76 rfl ?_
        refine V.iload_n dX7_kindOfWord_78 rfl rfl ?_
        refine V.icmp_ne (tgt := 84) dX7_kindOfWord_79 (by decide) (fun c8 => ?_) (fun c8 => ?_)
        · have h := (if_neg c8).symm.trans h
          refine V.weak [true, true, true, true, false, false, true] ?_
          exact wb_X7_kindOfWord_84 N hk13 h
        · have h := (if_pos c8).symm.trans h
          refine V.iload_n dX7_kindOfWord_82 rfl rfl ?_
          obtain rfl := Option.some.inj h
          exact V.ireturn dX7_kindOfWord_83
    · have h := (if_neg c6).symm.trans h
      refine V.iload dX7_kindOfWord_39 rfl ?_
      refine V.if_eq (tgt := 62) dX7_kindOfWord_41 (by decide) (fun c9 => ?_) (fun c9 => ?_)
      · have h := (if_pos c9).symm.trans h
        refine V.iconst dX7_kindOfWord_62 ki_0 ?_
        refine V.istore (ls' := [some (LR v0), some (LI v1), some (LI v2), some (LI v3), some (LI v4), some (LI (0 : Int32)), some (LI v6), some (LI x4)]) dX7_kindOfWord_63 (by decide) rfl rfl ?_
        refine V.iinc (ls' := [some (LR v0), some (LI v1), some (LI v2), some (LI v3), some (LI (v4 + (1 : Int32))), some (LI (0 : Int32)), some (LI v6), some (LI x4)]) dX7_kindOfWord_65 rfl ki_1 (by decide) rfl rfl ?_
        refine V.goto (tgt := 93) dX7_kindOfWord_68 (by decide) ?_
        refine V.iinc (ls' := [some (LR v0), some (LI v1), some (LI v2), some (LI v3), some (LI (v4 + (1 : Int32))), some (LI (0 : Int32)), some (LI (v6 + (1 : Int32))), some (LI x4)]) dX7_kindOfWord_93 rfl ki_1 (by decide) rfl rfl ?_
        refine V.goto (tgt := 13) dX7_kindOfWord_96 (by decide) ?_
        refine V.weak [true, true, true, true, true, true, true] ?_
        exact hk13 h
      · have h := (if_neg c9).symm.trans h
        refine V.aload_n dX7_kindOfWord_44 rfl rfl ?_
        obtain ⟨x10, h11, h⟩ := bnd h
        refine V.getF (gR_F h11) CF7 (Nat.le_of_ble_eq_true rfl) fl_RX7_9 dX7_kindOfWord_45 ?_
        refine V.iload dX7_kindOfWord_48 rfl ?_
        obtain ⟨p12, h13, h⟩ := bnd h
        have w14 := w_X6_at (g := g) h13
        refine V.callVi (args := [LI v4]) (st := []) w14.1 (oo_X6_at h13) mk_X6_at w14.2 vc_6 ml_RX7_46 im_X6_at se_X6_at rfl (Nat.le_of_ble_eq_true rfl) (by decide) rfl (Nat.le_of_ble_eq_true rfl) dX7_kindOfWord_50 ?_
        refine V.iload dX7_kindOfWord_53 rfl ?_
        refine V.icmp_ne (tgt := 62) dX7_kindOfWord_55 (by decide) (fun c15 => ?_) (fun c15 => ?_)
        · have h := (if_neg c15).symm.trans h
          refine V.iconst dX7_kindOfWord_62 ki_0 ?_
          refine V.istore (ls' := [some (LR v0), some (LI v1), some (LI v2), some (LI v3), some (LI v4), some (LI (0 : Int32)), some (LI v6), some (LI x4)]) dX7_kindOfWord_63 (by decide) rfl rfl ?_
          refine V.iinc (ls' := [some (LR v0), some (LI v1), some (LI v2), some (LI v3), some (LI (v4 + (1 : Int32))), some (LI (0 : Int32)), some (LI v6), some (LI x4)]) dX7_kindOfWord_65 rfl ki_1 (by decide) rfl rfl ?_
          refine V.goto (tgt := 93) dX7_kindOfWord_68 (by decide) ?_
          refine V.iinc (ls' := [some (LR v0), some (LI v1), some (LI v2), some (LI v3), some (LI (v4 + (1 : Int32))), some (LI (0 : Int32)), some (LI (v6 + (1 : Int32))), some (LI x4)]) dX7_kindOfWord_93 rfl ki_1 (by decide) rfl rfl ?_
          refine V.goto (tgt := 13) dX7_kindOfWord_96 (by decide) ?_
          refine V.weak [true, true, true, true, true, true, true] ?_
          exact hk13 h
        · have h := (if_pos c15).symm.trans h
          refine V.iconst dX7_kindOfWord_58 ki_1 ?_
          refine V.goto (tgt := 63) dX7_kindOfWord_59 (by decide) ?_
          refine V.istore (ls' := [some (LR v0), some (LI v1), some (LI v2), some (LI v3), some (LI v4), some (LI (1 : Int32)), some (LI v6), some (LI x4)]) dX7_kindOfWord_63 (by decide) rfl rfl ?_
          refine V.iinc (ls' := [some (LR v0), some (LI v1), some (LI v2), some (LI v3), some (LI (v4 + (1 : Int32))), some (LI (1 : Int32)), some (LI v6), some (LI x4)]) dX7_kindOfWord_65 rfl ki_1 (by decide) rfl rfl ?_
          refine V.goto (tgt := 93) dX7_kindOfWord_68 (by decide) ?_
          refine V.iinc (ls' := [some (LR v0), some (LI v1), some (LI v2), some (LI v3), some (LI (v4 + (1 : Int32))), some (LI (1 : Int32)), some (LI (v6 + (1 : Int32))), some (LI x4)]) dX7_kindOfWord_93 rfl ki_1 (by decide) rfl rfl ?_
          refine V.goto (tgt := 13) dX7_kindOfWord_96 (by decide) ?_
          refine V.weak [true, true, true, true, true, true, true] ?_
          exact hk13 h
def l_X7_kindOfWord_13 (N : Nat) (A : LH) : Nat → Option Nat → Int32 → Int32 → Int32 → Int32 → Int32 → Int32 → Option (Int32)
  | 0, _, _, _, _, _, _, _ => none
  | n + 1, v0, v1, v2, v3, v4, v5, v6 => b_X7_kindOfWord_13 N A (l_X7_kindOfWord_13 N A n) v0 v1 v2 v3 v4 v5 v6
theorem wl_X7_kindOfWord_13 {g : GG} {n0 z0 : Nat} (N : Nat) {A : LH} : ∀ (n : Nat) {v0 : Option Nat} {v1 : Int32} {v2 : Int32} {v3 : Int32} {v4 : Int32} {v5 : Int32} {v6 : Int32} {p : Int32}, l_X7_kindOfWord_13 N A n v0 v1 v2 v3 v4 v5 v6 = some p → V g m_X7_kindOfWord 4 n0 z0 (some (LI p)) A A 13 [some (LR v0), some (LI v1), some (LI v2), some (LI v3), some (LI v4), some (LI v5), some (LI v6)] []
  | 0, _, _, _, _, _, _, _, _, h => nomatch h
  | n + 1, _, _, _, _, _, _, _, _, h => wb_X7_kindOfWord_13 N (wl_X7_kindOfWord_13 N n) h
def b_X7_kindOfWord (N : Nat) (A : LH) (v0 : Option Nat) (v1 : Int32) (v2 : Int32) : Option (Int32) :=
  l_X7_kindOfWord_13 N A N v0 v1 v2 (300 : Int32) v1 (1 : Int32) (0 : Int32)
set_option maxRecDepth 4000 in
theorem wb_X7_kindOfWord {g : GG} {n0 z0 : Nat} (N : Nat) {A : LH} {v0 : Option Nat} {v1 : Int32} {v2 : Int32} {p : Int32} (h : b_X7_kindOfWord N A v0 v1 v2 = some p) : V g m_X7_kindOfWord 4 n0 z0 (some (LI p)) A A 0 [some (LR v0), some (LI v1), some (LI v2)] [] := by
  unfold b_X7_kindOfWord at h
  refine V.sipush dX7_kindOfWord_0 ks_300 ?_
  refine V.istore_n (ls' := [some (LR v0), some (LI v1), some (LI v2), some (LI (300 : Int32))]) dX7_kindOfWord_3 rfl (by decide) rfl rfl ?_
  refine V.iload_n dX7_kindOfWord_4 rfl rfl ?_
  refine V.istore (ls' := [some (LR v0), some (LI v1), some (LI v2), some (LI (300 : Int32)), some (LI v1)]) dX7_kindOfWord_5 (by decide) rfl rfl ?_
  refine V.iconst dX7_kindOfWord_7 ki_1 ?_
  refine V.istore (ls' := [some (LR v0), some (LI v1), some (LI v2), some (LI (300 : Int32)), some (LI v1), some (LI (1 : Int32))]) dX7_kindOfWord_8 (by decide) rfl rfl ?_
  refine V.iconst dX7_kindOfWord_10 ki_0 ?_
  refine V.istore (ls' := [some (LR v0), some (LI v1), some (LI v2), some (LI (300 : Int32)), some (LI v1), some (LI (1 : Int32)), some (LI (0 : Int32))]) dX7_kindOfWord_11 (by decide) rfl rfl ?_
  refine V.weak [true, true, true, true, true, true, true] ?_
  exact wl_X7_kindOfWord_13 N N h
def f_X7_kindOfWord (N : Nat) (A : LH) (v0 : Option Nat) (v1 : Int32) (v2 : Int32) : Option (Int32) := if isO A v0 7 = true then b_X7_kindOfWord N A v0 v1 v2 else none
theorem w_X7_kindOfWord {g : GG} (N : Nat) {A : LH} {v0 : Option Nat} {v1 : Int32} {v2 : Int32} {p : Int32} (h : f_X7_kindOfWord N A v0 v1 v2 = some p) : Ct g m_X7_kindOfWord 4 [LR v0, LI v1, LI v2] A (some (LI p)) A := by
  unfold f_X7_kindOfWord at h
  obtain ⟨ho, h⟩ := ifN h
  exact ⟨wb_X7_kindOfWord N h, rfl⟩
theorem oo_X7_kindOfWord {N : Nat} {A : LH} {v0 : Option Nat} {v1 : Int32} {v2 : Int32} {p : Int32} (h : f_X7_kindOfWord N A v0 v1 v2 = some p) : isO A v0 7 = true := by unfold f_X7_kindOfWord at h; exact (ifN h).1
def b_X7_addToken_126 (N : Nat) (A : LH) (v1 : Int32) (v3 : Int32) (s0 : Int32) (s1 : Option Nat) : Option (Int32 × LH) :=
  (f_X7_add A s1 s0 (0 : Int32) v1).bind fun p18 => some (v3, p18)
set_option maxRecDepth 4000 in
theorem wb_X7_addToken_126 {g : GG} {n0 z0 : Nat} (N : Nat) {A : LH} {v1 : Int32} {v3 : Int32} {s0 : Int32} {s1 : Option Nat} {p : Int32 × LH} (h : b_X7_addToken_126 N A v1 v3 s0 s1 = some p) : V g m_X7_addToken 5 n0 z0 (some (LI p.1)) p.2 A 126 [none, some (LI v1), none, some (LI v3)] [LI s0, LR s1] := by
  unfold b_X7_addToken_126 at h
  refine V.iconst dX7_addToken_126 ki_0 ?_
  refine V.iload_n dX7_addToken_127 rfl rfl ?_
  obtain ⟨p18, h19, h⟩ := bnd h
  have w20 := w_X7_add (g := g) h19
  refine V.callVv (args := [LI s0, LI (0 : Int32), LI v1]) (st := []) w20.1 (oo_X7_add h19) mk_X7_add w20.2 vc_7 ml_RX7_57 im_X7_add se_X7_add rfl (Nat.le_of_ble_eq_true rfl) (by decide) rfl (Nat.le_of_ble_eq_true rfl) dX7_addToken_128 ?_
  refine V.iload_n dX7_addToken_131 rfl rfl ?_
  obtain rfl := Option.some.inj h
  exact V.ireturn dX7_addToken_132
def b_X7_addToken_104 (N : Nat) (A : LH) (v0 : Option Nat) (v1 : Int32) (v3 : Int32) : Option (Int32 × LH) :=
  (f_X7_addNumber N A v0 v1 v3).bind fun p26 => some (v3, p26)
set_option maxRecDepth 4000 in
theorem wb_X7_addToken_104 {g : GG} {n0 z0 : Nat} (N : Nat) {A : LH} {v0 : Option Nat} {v1 : Int32} {v3 : Int32} {p : Int32 × LH} (h : b_X7_addToken_104 N A v0 v1 v3 = some p) : V g m_X7_addToken 5 n0 z0 (some (LI p.1)) p.2 A 104 [some (LR v0), some (LI v1), none, some (LI v3)] [] := by
  unfold b_X7_addToken_104 at h
  refine V.aload_n dX7_addToken_104 rfl rfl ?_
  refine V.iload_n dX7_addToken_105 rfl rfl ?_
  refine V.iload_n dX7_addToken_106 rfl rfl ?_
  obtain ⟨p26, h27, h⟩ := bnd h
  have w28 := w_X7_addNumber (g := g) N h27
  refine V.callVv (args := [LI v1, LI v3]) (st := []) w28.1 (oo_X7_addNumber h27) mk_X7_addNumber w28.2 vc_7 ml_RX7_78 im_X7_addNumber se_X7_addNumber rfl (Nat.le_of_ble_eq_true rfl) (by decide) rfl (Nat.le_of_ble_eq_true rfl) dX7_addToken_107 ?_
  refine V.goto (tgt := 131) dX7_addToken_110 (by decide) ?_
  refine V.iload_n dX7_addToken_131 rfl rfl ?_
  obtain rfl := Option.some.inj h
  exact V.ireturn dX7_addToken_132
def b_X7_addToken_73 (N : Nat) (k73 : LH → Option Nat → Int32 → Int32 → Option (Int32 × LH)) (A : LH) (v0 : Option Nat) (v1 : Int32) (v3 : Int32) : Option (Int32 × LH) :=
  (gR A v0 7 0).bind fun x21 => (gI A x21 6 1).bind fun x23 => if x23 ≤ v3 then b_X7_addToken_104 N A v0 v1 v3 else (gR A v0 7 0).bind fun x29 => (f_X6_at A x29 v3).bind fun p31 => (f_X7_isDigit p31).bind fun p34 => if p34 = 0 then b_X7_addToken_104 N A v0 v1 v3 else k73 A v0 v1 (v3 + (1 : Int32))
set_option maxRecDepth 4000 in
theorem wb_X7_addToken_73 {g : GG} {n0 z0 : Nat} (N : Nat) {k73 : LH → Option Nat → Int32 → Int32 → Option (Int32 × LH)} {A : LH} {v0 : Option Nat} {v1 : Int32} {v3 : Int32} {p : Int32 × LH} (hk73 : ∀ {A : LH} {v0 : Option Nat} {v1 : Int32} {v3 : Int32} {p : Int32 × LH}, k73 A v0 v1 v3 = some p → V g m_X7_addToken 5 n0 z0 (some (LI p.1)) p.2 A 73 [some (LR v0), some (LI v1), none, some (LI v3)] []) (h : b_X7_addToken_73 N k73 A v0 v1 v3 = some p) : V g m_X7_addToken 5 n0 z0 (some (LI p.1)) p.2 A 73 [some (LR v0), some (LI v1), none, some (LI v3)] [] := by
  unfold b_X7_addToken_73 at h
  refine V.iload_n dX7_addToken_73 rfl rfl ?_
  refine V.aload_n dX7_addToken_74 rfl rfl ?_
  obtain ⟨x21, h22, h⟩ := bnd h
  refine V.getF (gR_F h22) CF7 (Nat.le_of_ble_eq_true rfl) fl_RX7_9 dX7_addToken_75 ?_
  obtain ⟨x23, h24, h⟩ := bnd h
  refine V.getFN (gI_F h24) CF6 (Nat.le_of_ble_eq_true rfl) fl_RX7_41 dX7_addToken_78 ?_
  refine V.icmp_ge (tgt := 104) dX7_addToken_81 (by decide) (fun c25 => ?_) (fun c25 => ?_)
  · have h := (if_pos c25).symm.trans h
    refine V.weak [true, true, false, true] ?_
    exact wb_X7_addToken_104 N h
  · have h := (if_neg c25).symm.trans h
    refine V.aload_n dX7_addToken_84 rfl rfl ?_
    obtain ⟨x29, h30, h⟩ := bnd h
    refine V.getF (gR_F h30) CF7 (Nat.le_of_ble_eq_true rfl) fl_RX7_9 dX7_addToken_85 ?_
    refine V.iload_n dX7_addToken_88 rfl rfl ?_
    obtain ⟨p31, h32, h⟩ := bnd h
    have w33 := w_X6_at (g := g) h32
    refine V.callVi (args := [LI v3]) (st := []) w33.1 (oo_X6_at h32) mk_X6_at w33.2 vc_6 ml_RX7_46 im_X6_at se_X6_at rfl (Nat.le_of_ble_eq_true rfl) (by decide) rfl (Nat.le_of_ble_eq_true rfl) dX7_addToken_89 ?_
    obtain ⟨p34, h35, h⟩ := bnd h
    have w36 := w_X7_isDigit (g := g) (A := A) h35
    refine V.callSi (args := [LI p31]) (st := []) w36.1 mk_X7_isDigit w36.2 ml_RX7_75 sm_X7_isDigit rfl (Nat.le_of_ble_eq_true rfl) (by decide) rfl (Nat.le_of_ble_eq_true rfl) dX7_addToken_92 ?_
    refine V.if_eq (tgt := 104) dX7_addToken_95 (by decide) (fun c37 => ?_) (fun c37 => ?_)
    · have h := (if_pos c37).symm.trans h
      refine V.weak [true, true, false, true] ?_
      exact wb_X7_addToken_104 N h
    · have h := (if_neg c37).symm.trans h
      refine V.iinc (ls' := [some (LR v0), some (LI v1), none, some (LI (v3 + (1 : Int32)))]) dX7_addToken_98 rfl ki_1 (by decide) rfl rfl ?_
      refine V.goto (tgt := 73) dX7_addToken_101 (by decide) ?_
      refine V.weak [true, true, false, true] ?_
      exact hk73 h
def l_X7_addToken_73 (N : Nat) : Nat → LH → Option Nat → Int32 → Int32 → Option (Int32 × LH)
  | 0, _, _, _, _ => none
  | n + 1, A, v0, v1, v3 => b_X7_addToken_73 N (l_X7_addToken_73 N n) A v0 v1 v3
theorem wl_X7_addToken_73 {g : GG} {n0 z0 : Nat} (N : Nat) : ∀ (n : Nat) {A : LH} {v0 : Option Nat} {v1 : Int32} {v3 : Int32} {p : Int32 × LH}, l_X7_addToken_73 N n A v0 v1 v3 = some p → V g m_X7_addToken 5 n0 z0 (some (LI p.1)) p.2 A 73 [some (LR v0), some (LI v1), none, some (LI v3)] []
  | 0, _, _, _, _, _, h => nomatch h
  | n + 1, _, _, _, _, _, h => wb_X7_addToken_73 N (wl_X7_addToken_73 N n) h
def b_X7_addToken_51 (N : Nat) (A : LH) (v0 : Option Nat) (v1 : Int32) (v3 : Int32) : Option (Int32 × LH) :=
  (f_X7_kindOfWord N A v0 v1 v3).bind fun p43 => (f_X7_add A v0 p43 (0 : Int32) v1).bind fun p46 => some (v3, p46)
set_option maxRecDepth 4000 in
theorem wb_X7_addToken_51 {g : GG} {n0 z0 : Nat} (N : Nat) {A : LH} {v0 : Option Nat} {v1 : Int32} {v3 : Int32} {p : Int32 × LH} (h : b_X7_addToken_51 N A v0 v1 v3 = some p) : V g m_X7_addToken 5 n0 z0 (some (LI p.1)) p.2 A 51 [some (LR v0), some (LI v1), none, some (LI v3)] [] := by
  unfold b_X7_addToken_51 at h
  refine V.aload_n dX7_addToken_51 rfl rfl ?_
  refine V.aload_n dX7_addToken_52 rfl rfl ?_
  refine V.iload_n dX7_addToken_53 rfl rfl ?_
  refine V.iload_n dX7_addToken_54 rfl rfl ?_
  obtain ⟨p43, h44, h⟩ := bnd h
  have w45 := w_X7_kindOfWord (g := g) N h44
  refine V.callVi (args := [LI v1, LI v3]) (st := [LR v0]) w45.1 (oo_X7_kindOfWord h44) mk_X7_kindOfWord w45.2 vc_7 ml_RX7_71 im_X7_kindOfWord se_X7_kindOfWord rfl (Nat.le_of_ble_eq_true rfl) (by decide) rfl (Nat.le_of_ble_eq_true rfl) dX7_addToken_55 ?_
  refine V.iconst dX7_addToken_58 ki_0 ?_
  refine V.iload_n dX7_addToken_59 rfl rfl ?_
  obtain ⟨p46, h47, h⟩ := bnd h
  have w48 := w_X7_add (g := g) h47
  refine V.callVv (args := [LI p43, LI (0 : Int32), LI v1]) (st := []) w48.1 (oo_X7_add h47) mk_X7_add w48.2 vc_7 ml_RX7_57 im_X7_add se_X7_add rfl (Nat.le_of_ble_eq_true rfl) (by decide) rfl (Nat.le_of_ble_eq_true rfl) dX7_addToken_60 ?_
  refine V.goto (tgt := 131) dX7_addToken_63 (by decide) ?_
  refine V.iload_n dX7_addToken_131 rfl rfl ?_
  obtain rfl := Option.some.inj h
  exact V.ireturn dX7_addToken_132
def b_X7_addToken_20 (N : Nat) (k20 : LH → Option Nat → Int32 → Int32 → Option (Int32 × LH)) (A : LH) (v0 : Option Nat) (v1 : Int32) (v3 : Int32) : Option (Int32 × LH) :=
  (gR A v0 7 0).bind fun x38 => (gI A x38 6 1).bind fun x40 => if x40 ≤ v3 then b_X7_addToken_51 N A v0 v1 v3 else (gR A v0 7 0).bind fun x49 => (f_X6_at A x49 v3).bind fun p51 => (f_X7_isLetter p51).bind fun p54 => if p54 = 0 then b_X7_addToken_51 N A v0 v1 v3 else k20 A v0 v1 (v3 + (1 : Int32))
set_option maxRecDepth 4000 in
theorem wb_X7_addToken_20 {g : GG} {n0 z0 : Nat} (N : Nat) {k20 : LH → Option Nat → Int32 → Int32 → Option (Int32 × LH)} {A : LH} {v0 : Option Nat} {v1 : Int32} {v3 : Int32} {p : Int32 × LH} (hk20 : ∀ {A : LH} {v0 : Option Nat} {v1 : Int32} {v3 : Int32} {p : Int32 × LH}, k20 A v0 v1 v3 = some p → V g m_X7_addToken 5 n0 z0 (some (LI p.1)) p.2 A 20 [some (LR v0), some (LI v1), none, some (LI v3)] []) (h : b_X7_addToken_20 N k20 A v0 v1 v3 = some p) : V g m_X7_addToken 5 n0 z0 (some (LI p.1)) p.2 A 20 [some (LR v0), some (LI v1), none, some (LI v3)] [] := by
  unfold b_X7_addToken_20 at h
  refine V.iload_n dX7_addToken_20 rfl rfl ?_
  refine V.aload_n dX7_addToken_21 rfl rfl ?_
  obtain ⟨x38, h39, h⟩ := bnd h
  refine V.getF (gR_F h39) CF7 (Nat.le_of_ble_eq_true rfl) fl_RX7_9 dX7_addToken_22 ?_
  obtain ⟨x40, h41, h⟩ := bnd h
  refine V.getFN (gI_F h41) CF6 (Nat.le_of_ble_eq_true rfl) fl_RX7_41 dX7_addToken_25 ?_
  refine V.icmp_ge (tgt := 51) dX7_addToken_28 (by decide) (fun c42 => ?_) (fun c42 => ?_)
  · have h := (if_pos c42).symm.trans h
    refine V.weak [true, true, false, true] ?_
    exact wb_X7_addToken_51 N h
  · have h := (if_neg c42).symm.trans h
    refine V.aload_n dX7_addToken_31 rfl rfl ?_
    obtain ⟨x49, h50, h⟩ := bnd h
    refine V.getF (gR_F h50) CF7 (Nat.le_of_ble_eq_true rfl) fl_RX7_9 dX7_addToken_32 ?_
    refine V.iload_n dX7_addToken_35 rfl rfl ?_
    obtain ⟨p51, h52, h⟩ := bnd h
    have w53 := w_X6_at (g := g) h52
    refine V.callVi (args := [LI v3]) (st := []) w53.1 (oo_X6_at h52) mk_X6_at w53.2 vc_6 ml_RX7_46 im_X6_at se_X6_at rfl (Nat.le_of_ble_eq_true rfl) (by decide) rfl (Nat.le_of_ble_eq_true rfl) dX7_addToken_36 ?_
    obtain ⟨p54, h55, h⟩ := bnd h
    have w56 := w_X7_isLetter (g := g) (A := A) h55
    refine V.callSi (args := [LI p51]) (st := []) w56.1 mk_X7_isLetter w56.2 ml_RX7_68 sm_X7_isLetter rfl (Nat.le_of_ble_eq_true rfl) (by decide) rfl (Nat.le_of_ble_eq_true rfl) dX7_addToken_39 ?_
    refine V.if_eq (tgt := 51) dX7_addToken_42 (by decide) (fun c57 => ?_) (fun c57 => ?_)
    · have h := (if_pos c57).symm.trans h
      refine V.weak [true, true, false, true] ?_
      exact wb_X7_addToken_51 N h
    · have h := (if_neg c57).symm.trans h
      refine V.iinc (ls' := [some (LR v0), some (LI v1), none, some (LI (v3 + (1 : Int32)))]) dX7_addToken_45 rfl ki_1 (by decide) rfl rfl ?_
      refine V.goto (tgt := 20) dX7_addToken_48 (by decide) ?_
      refine V.weak [true, true, false, true] ?_
      exact hk20 h
def l_X7_addToken_20 (N : Nat) : Nat → LH → Option Nat → Int32 → Int32 → Option (Int32 × LH)
  | 0, _, _, _, _ => none
  | n + 1, A, v0, v1, v3 => b_X7_addToken_20 N (l_X7_addToken_20 N n) A v0 v1 v3
theorem wl_X7_addToken_20 {g : GG} {n0 z0 : Nat} (N : Nat) : ∀ (n : Nat) {A : LH} {v0 : Option Nat} {v1 : Int32} {v3 : Int32} {p : Int32 × LH}, l_X7_addToken_20 N n A v0 v1 v3 = some p → V g m_X7_addToken 5 n0 z0 (some (LI p.1)) p.2 A 20 [some (LR v0), some (LI v1), none, some (LI v3)] []
  | 0, _, _, _, _, _, h => nomatch h
  | n + 1, _, _, _, _, _, h => wb_X7_addToken_20 N (wl_X7_addToken_20 N n) h
def b_X7_addToken (N : Nat) (A : LH) (v0 : Option Nat) (v1 : Int32) : Option (Int32 × LH) :=
  (gR A v0 7 0).bind fun x1 => (f_X6_at A x1 v1).bind fun p3 => (f_X7_isLetter p3).bind fun p6 => if p6 = 0 then (f_X7_isDigit p3).bind fun p10 => if p10 = 0 then (f_X7_isSign p3).bind fun p14 => if p14 = 0 then b_X7_addToken_126 N A v1 (v1 + (1 : Int32)) (2 : Int32) v0 else b_X7_addToken_126 N A v1 (v1 + (1 : Int32)) p3 v0 else l_X7_addToken_73 N N A v0 v1 (v1 + (1 : Int32)) else l_X7_addToken_20 N N A v0 v1 (v1 + (1 : Int32))
set_option maxRecDepth 4000 in
theorem wb_X7_addToken {g : GG} {n0 z0 : Nat} (N : Nat) {A : LH} {v0 : Option Nat} {v1 : Int32} {p : Int32 × LH} (h : b_X7_addToken N A v0 v1 = some p) : V g m_X7_addToken 5 n0 z0 (some (LI p.1)) p.2 A 0 [some (LR v0), some (LI v1)] [] := by
  unfold b_X7_addToken at h
  refine V.aload_n dX7_addToken_0 rfl rfl ?_
  obtain ⟨x1, h2, h⟩ := bnd h
  refine V.getF (gR_F h2) CF7 (Nat.le_of_ble_eq_true rfl) fl_RX7_9 dX7_addToken_1 ?_
  refine V.iload_n dX7_addToken_4 rfl rfl ?_
  obtain ⟨p3, h4, h⟩ := bnd h
  have w5 := w_X6_at (g := g) h4
  refine V.callVi (args := [LI v1]) (st := []) w5.1 (oo_X6_at h4) mk_X6_at w5.2 vc_6 ml_RX7_46 im_X6_at se_X6_at rfl (Nat.le_of_ble_eq_true rfl) (by decide) rfl (Nat.le_of_ble_eq_true rfl) dX7_addToken_5 ?_
  refine V.istore_n (ls' := [some (LR v0), some (LI v1), some (LI p3)]) dX7_addToken_8 rfl (by decide) rfl rfl ?_
  refine V.iload_n dX7_addToken_9 rfl rfl ?_
  refine V.iconst dX7_addToken_10 ki_1 ?_
  refine V.iadd dX7_addToken_11 ?_
  refine V.istore_n (ls' := [some (LR v0), some (LI v1), some (LI p3), some (LI (v1 + (1 : Int32)))]) dX7_addToken_12 rfl (by decide) rfl rfl ?_
  refine V.iload_n dX7_addToken_13 rfl rfl ?_
  obtain ⟨p6, h7, h⟩ := bnd h
  have w8 := w_X7_isLetter (g := g) (A := A) h7
  refine V.callSi (args := [LI p3]) (st := []) w8.1 mk_X7_isLetter w8.2 ml_RX7_68 sm_X7_isLetter rfl (Nat.le_of_ble_eq_true rfl) (by decide) rfl (Nat.le_of_ble_eq_true rfl) dX7_addToken_14 ?_
  refine V.if_eq (tgt := 66) dX7_addToken_17 (by decide) (fun c9 => ?_) (fun c9 => ?_)
  · have h := (if_pos c9).symm.trans h
    refine V.iload_n dX7_addToken_66 rfl rfl ?_
    obtain ⟨p10, h11, h⟩ := bnd h
    have w12 := w_X7_isDigit (g := g) (A := A) h11
    refine V.callSi (args := [LI p3]) (st := []) w12.1 mk_X7_isDigit w12.2 ml_RX7_75 sm_X7_isDigit rfl (Nat.le_of_ble_eq_true rfl) (by decide) rfl (Nat.le_of_ble_eq_true rfl) dX7_addToken_67 ?_
    refine V.if_eq (tgt := 113) dX7_addToken_70 (by decide) (fun c13 => ?_) (fun c13 => ?_)
    · have h := (if_pos c13).symm.trans h
      refine V.aload_n dX7_addToken_113 rfl rfl ?_
      refine V.iload_n dX7_addToken_114 rfl rfl ?_
      obtain ⟨p14, h15, h⟩ := bnd h
      have w16 := w_X7_isSign (g := g) (A := A) h15
      refine V.callSi (args := [LI p3]) (st := [LR v0]) w16.1 mk_X7_isSign w16.2 ml_RX7_82 sm_X7_isSign rfl (Nat.le_of_ble_eq_true rfl) (by decide) rfl (Nat.le_of_ble_eq_true rfl) dX7_addToken_115 ?_
      refine V.if_eq (tgt := 125) dX7_addToken_118 (by decide) (fun c17 => ?_) (fun c17 => ?_)
      · have h := (if_pos c17).symm.trans h
        refine V.iconst dX7_addToken_125 ki_2 ?_
        refine V.weak [false, true, false, true] ?_
        exact wb_X7_addToken_126 N h
      · have h := (if_neg c17).symm.trans h
        refine V.iload_n dX7_addToken_121 rfl rfl ?_
        refine V.goto (tgt := 126) dX7_addToken_122 (by decide) ?_
        refine V.weak [false, true, false, true] ?_
        exact wb_X7_addToken_126 N h
    · have h := (if_neg c13).symm.trans h
      refine V.weak [true, true, false, true] ?_
      exact wl_X7_addToken_73 N N h
  · have h := (if_neg c9).symm.trans h
    refine V.weak [true, true, false, true] ?_
    exact wl_X7_addToken_20 N N h
def f_X7_addToken (N : Nat) (A : LH) (v0 : Option Nat) (v1 : Int32) : Option (Int32 × LH) := if isO A v0 7 = true then b_X7_addToken N A v0 v1 else none
theorem w_X7_addToken {g : GG} (N : Nat) {A : LH} {v0 : Option Nat} {v1 : Int32} {p : Int32 × LH} (h : f_X7_addToken N A v0 v1 = some p) : Ct g m_X7_addToken 5 [LR v0, LI v1] A (some (LI p.1)) p.2 := by
  unfold f_X7_addToken at h
  obtain ⟨ho, h⟩ := ifN h
  exact ⟨wb_X7_addToken N h, rfl⟩
theorem oo_X7_addToken {N : Nat} {A : LH} {v0 : Option Nat} {v1 : Int32} {p : Int32 × LH} (h : f_X7_addToken N A v0 v1 = some p) : isO A v0 7 = true := by unfold f_X7_addToken at h; exact (ifN h).1
def b_X7_isBlank (v0 : Int32) : Option (Int32) :=
  if v0 = (32 : Int32) then some (1 : Int32) else if v0 = (10 : Int32) then some (1 : Int32) else some (0 : Int32)
set_option maxRecDepth 4000 in
theorem wb_X7_isBlank {g : GG} {n0 z0 : Nat} {A : LH} {v0 : Int32} {p : Int32} (h : b_X7_isBlank v0 = some p) : V g m_X7_isBlank 0 n0 z0 (some (LI p)) A A 0 [some (LI v0)] [] := by
  unfold b_X7_isBlank at h
  refine V.iload_n dX7_isBlank_0 rfl rfl ?_
  refine V.bipush dX7_isBlank_1 kb_32 ?_
  refine V.icmp_eq (tgt := 12) dX7_isBlank_3 (by decide) (fun c1 => ?_) (fun c1 => ?_)
  · have h := (if_pos c1).symm.trans h
    refine V.iconst dX7_isBlank_12 ki_1 ?_
    refine V.goto (tgt := 17) dX7_isBlank_13 (by decide) ?_
    obtain rfl := Option.some.inj h
    exact V.ireturn dX7_isBlank_17
  · have h := (if_neg c1).symm.trans h
    refine V.iload_n dX7_isBlank_6 rfl rfl ?_
    refine V.bipush dX7_isBlank_7 kb_10 ?_
    refine V.icmp_ne (tgt := 16) dX7_isBlank_9 (by decide) (fun c2 => ?_) (fun c2 => ?_)
    · have h := (if_neg c2).symm.trans h
      refine V.iconst dX7_isBlank_16 ki_0 ?_
      obtain rfl := Option.some.inj h
      exact V.ireturn dX7_isBlank_17
    · have h := (if_pos c2).symm.trans h
      refine V.iconst dX7_isBlank_12 ki_1 ?_
      refine V.goto (tgt := 17) dX7_isBlank_13 (by decide) ?_
      obtain rfl := Option.some.inj h
      exact V.ireturn dX7_isBlank_17
def f_X7_isBlank (v0 : Int32) : Option (Int32) := zd (b_X7_isBlank v0)
theorem w_X7_isBlank {g : GG} {A : LH} {v0 : Int32} {p : Int32} (h : f_X7_isBlank v0 = some p) : Ct g m_X7_isBlank 0 [LI v0] A (some (LI p)) A := by
  unfold f_X7_isBlank at h
  obtain ⟨h, hz⟩ := zd_sp h
  exact ⟨wb_X7_isBlank h, (RTz hz)⟩
def b_X7_step (N : Nat) (A : LH) (v0 : Option Nat) : Option (LH) :=
  (gI A v0 7 5).bind fun x1 => if x1 < 0 then some A else (gI A v0 7 5).bind fun x4 => (gI A v0 7 4).bind fun x6 => if x6 ≤ x4 then some A else (gI A v0 7 5).bind fun x9 => (gR A v0 7 1).bind fun x11 => (ln6 A x11).bind fun x13 => if x13 ≤ x9 then some A else (gR A v0 7 1).bind fun x16 => (gI A v0 7 5).bind fun x18 => (aI A x16 0 x18).bind fun x20 => (pF A v0 7 6 (LI x20)).bind fun A22 => (gR A22 v0 7 2).bind fun x24 => (gI A22 v0 7 5).bind fun x26 => (aI A22 x24 0 x26).bind fun x28 => (pF A22 v0 7 7 (LI x28)).bind fun A30 => (gR A30 v0 7 3).bind fun x32 => (gI A30 v0 7 5).bind fun x34 => (aI A30 x32 0 x34).bind fun x36 => (pF A30 v0 7 8 (LI x36)).bind fun A38 => (gI A38 v0 7 5).bind fun x40 => (pF A38 v0 7 5 (LI (x40 + (1 : Int32)))).bind fun A42 => some A42
set_option maxRecDepth 4000 in
theorem wb_X7_step {g : GG} {n0 z0 : Nat} (N : Nat) {A : LH} {v0 : Option Nat} {p : LH} (h : b_X7_step N A v0 = some p) : V g m_X7_step 0 n0 z0 none p A 0 [some (LR v0)] [] := by
  unfold b_X7_step at h
  refine V.aload_n dX7_step_0 rfl rfl ?_
  obtain ⟨x1, h2, h⟩ := bnd h
  refine V.getF (gI_F h2) CF7 (Nat.le_of_ble_eq_true rfl) fl_RX7_29 dX7_step_1 ?_
  refine V.if_lt (tgt := 79) dX7_step_4 (by decide) (fun c3 => ?_) (fun c3 => ?_)
  · have h := (if_pos c3).symm.trans h
    obtain rfl := Option.some.inj h
    exact V.return_ dX7_step_79
  · have h := (if_neg c3).symm.trans h
    refine V.aload_n dX7_step_7 rfl rfl ?_
    obtain ⟨x4, h5, h⟩ := bnd h
    refine V.getF (gI_F h5) CF7 (Nat.le_of_ble_eq_true rfl) fl_RX7_29 dX7_step_8 ?_
    refine V.aload_n dX7_step_11 rfl rfl ?_
    obtain ⟨x6, h7, h⟩ := bnd h
    refine V.getF (gI_F h7) CF7 (Nat.le_of_ble_eq_true rfl) fl_RX7_25 dX7_step_12 ?_
    refine V.icmp_ge (tgt := 79) dX7_step_15 (by decide) (fun c8 => ?_) (fun c8 => ?_)
    · have h := (if_pos c8).symm.trans h
      obtain rfl := Option.some.inj h
      exact V.return_ dX7_step_79
    · have h := (if_neg c8).symm.trans h
      refine V.aload_n dX7_step_18 rfl rfl ?_
      obtain ⟨x9, h10, h⟩ := bnd h
      refine V.getF (gI_F h10) CF7 (Nat.le_of_ble_eq_true rfl) fl_RX7_29 dX7_step_19 ?_
      refine V.aload_n dX7_step_22 rfl rfl ?_
      obtain ⟨x11, h12, h⟩ := bnd h
      refine V.getF (gR_F h12) CF7 (Nat.le_of_ble_eq_true rfl) fl_RX7_15 dX7_step_23 ?_
      obtain ⟨x13, h14, h⟩ := bnd h
      refine V.alen (ln6_l h14) (ln6_t h14) dX7_step_26 ?_
      refine V.icmp_ge (tgt := 79) dX7_step_27 (by decide) (fun c15 => ?_) (fun c15 => ?_)
      · have h := (if_pos c15).symm.trans h
        obtain rfl := Option.some.inj h
        exact V.return_ dX7_step_79
      · have h := (if_neg c15).symm.trans h
        refine V.aload_n dX7_step_30 rfl rfl ?_
        refine V.aload_n dX7_step_31 rfl rfl ?_
        obtain ⟨x16, h17, h⟩ := bnd h
        refine V.getF (gR_F h17) CF7 (Nat.le_of_ble_eq_true rfl) fl_RX7_15 dX7_step_32 ?_
        refine V.aload_n dX7_step_35 rfl rfl ?_
        obtain ⟨x18, h19, h⟩ := bnd h
        refine V.getF (gI_F h19) CF7 (Nat.le_of_ble_eq_true rfl) fl_RX7_29 dX7_step_36 ?_
        obtain ⟨x20, h21, h⟩ := bnd h
        refine V.iald h21 dX7_step_39 ?_
        obtain ⟨A22, h23, h⟩ := bnd h
        refine V.putF h23 rfl rfl rfl CF7 (Nat.le_of_ble_eq_true rfl) fl_RX7_32 dX7_step_40 ?_
        refine V.aload_n dX7_step_43 rfl rfl ?_
        refine V.aload_n dX7_step_44 rfl rfl ?_
        obtain ⟨x24, h25, h⟩ := bnd h
        refine V.getF (gR_F h25) CF7 (Nat.le_of_ble_eq_true rfl) fl_RX7_19 dX7_step_45 ?_
        refine V.aload_n dX7_step_48 rfl rfl ?_
        obtain ⟨x26, h27, h⟩ := bnd h
        refine V.getF (gI_F h27) CF7 (Nat.le_of_ble_eq_true rfl) fl_RX7_29 dX7_step_49 ?_
        obtain ⟨x28, h29, h⟩ := bnd h
        refine V.iald h29 dX7_step_52 ?_
        obtain ⟨A30, h31, h⟩ := bnd h
        refine V.putF h31 rfl rfl rfl CF7 (Nat.le_of_ble_eq_true rfl) fl_RX7_35 dX7_step_53 ?_
        refine V.aload_n dX7_step_56 rfl rfl ?_
        refine V.aload_n dX7_step_57 rfl rfl ?_
        obtain ⟨x32, h33, h⟩ := bnd h
        refine V.getF (gR_F h33) CF7 (Nat.le_of_ble_eq_true rfl) fl_RX7_22 dX7_step_58 ?_
        refine V.aload_n dX7_step_61 rfl rfl ?_
        obtain ⟨x34, h35, h⟩ := bnd h
        refine V.getF (gI_F h35) CF7 (Nat.le_of_ble_eq_true rfl) fl_RX7_29 dX7_step_62 ?_
        obtain ⟨x36, h37, h⟩ := bnd h
        refine V.iald h37 dX7_step_65 ?_
        obtain ⟨A38, h39, h⟩ := bnd h
        refine V.putF h39 rfl rfl rfl CF7 (Nat.le_of_ble_eq_true rfl) fl_RX7_38 dX7_step_66 ?_
        refine V.aload_n dX7_step_69 rfl rfl ?_
        refine V.dup dX7_step_70 rfl ?_
        obtain ⟨x40, h41, h⟩ := bnd h
        refine V.getF (gI_F h41) CF7 (Nat.le_of_ble_eq_true rfl) fl_RX7_29 dX7_step_71 ?_
        refine V.iconst dX7_step_74 ki_1 ?_
        refine V.iadd dX7_step_75 ?_
        obtain ⟨A42, h43, h⟩ := bnd h
        refine V.putF h43 rfl rfl rfl CF7 (Nat.le_of_ble_eq_true rfl) fl_RX7_29 dX7_step_76 ?_
        obtain rfl := Option.some.inj h
        exact V.return_ dX7_step_79
def f_X7_step (N : Nat) (A : LH) (v0 : Option Nat) : Option (LH) := if isO A v0 7 = true then b_X7_step N A v0 else none
theorem w_X7_step {g : GG} (N : Nat) {A : LH} {v0 : Option Nat} {p : LH} (h : f_X7_step N A v0 = some p) : Ct g m_X7_step 0 [LR v0] A none p := by
  unfold f_X7_step at h
  obtain ⟨ho, h⟩ := ifN h
  exact ⟨wb_X7_step N h, trivial⟩
theorem oo_X7_step {N : Nat} {A : LH} {v0 : Option Nat} {p : LH} (h : f_X7_step N A v0 = some p) : isO A v0 7 = true := by unfold f_X7_step at h; exact (ifN h).1
def b_X7_takeApart_9 (N : Nat) (k9 : LH → Option Nat → Int32 → Int32 → Option (LH)) (A : LH) (v0 : Option Nat) (v1 : Int32) (v2 : Int32) : Option (LH) :=
  (gR A v0 7 0).bind fun x3 => (gI A x3 6 1).bind fun x5 => if x5 ≤ v2 then (gR A v0 7 0).bind fun x8 => (gI A x8 6 1).bind fun x10 => (f_X7_add A v0 (0 : Int32) (0 : Int32) x10).bind fun p12 => (pF p12 v0 7 5 (LI (0 : Int32))).bind fun A15 => (f_X7_step N A15 v0).bind fun p17 => some p17 else if v2 < v1 then k9 A v0 v1 (v2 + (1 : Int32)) else (gR A v0 7 0).bind fun x21 => (f_X6_at A x21 v2).bind fun p23 => (f_X7_isBlank p23).bind fun p26 => if p26 = 0 then (f_X7_addToken N A v0 v2).bind fun p30 => k9 p30.2 v0 p30.1 (v2 + (1 : Int32)) else k9 A v0 v1 (v2 + (1 : Int32))
set_option maxRecDepth 4000 in
theorem wb_X7_takeApart_9 {g : GG} {n0 z0 : Nat} (N : Nat) {k9 : LH → Option Nat → Int32 → Int32 → Option (LH)} {A : LH} {v0 : Option Nat} {v1 : Int32} {v2 : Int32} {p : LH} (hk9 : ∀ {A : LH} {v0 : Option Nat} {v1 : Int32} {v2 : Int32} {p : LH}, k9 A v0 v1 v2 = some p → V g m_X7_takeApart 6 n0 z0 none p A 9 [some (LR v0), some (LI v1), some (LI v2)] []) (h : b_X7_takeApart_9 N k9 A v0 v1 v2 = some p) : V g m_X7_takeApart 6 n0 z0 none p A 9 [some (LR v0), some (LI v1), some (LI v2)] [] := by
  unfold b_X7_takeApart_9 at h
  refine V.iload_n dX7_takeApart_9 rfl rfl ?_
  refine V.aload_n dX7_takeApart_10 rfl rfl ?_
  obtain ⟨x3, h4, h⟩ := bnd h
  refine V.getF (gR_F h4) CF7 (Nat.le_of_ble_eq_true rfl) fl_RX7_9 dX7_takeApart_11 ?_
  obtain ⟨x5, h6, h⟩ := bnd h
  refine V.getFN (gI_F h6) CF6 (Nat.le_of_ble_eq_true rfl) fl_RX7_41 dX7_takeApart_14 ?_
  refine V.icmp_ge (tgt := 51) dX7_takeApart_17 (by decide) (fun c7 => ?_) (fun c7 => ?_)
  · have h := (if_pos c7).symm.trans h
    refine V.aload_n dX7_takeApart_51 rfl rfl ?_
    refine V.iconst dX7_takeApart_52 ki_0 ?_
    refine V.iconst dX7_takeApart_53 ki_0 ?_
    refine V.aload_n dX7_takeApart_54 rfl rfl ?_
    obtain ⟨x8, h9, h⟩ := bnd h
    refine V.getF (gR_F h9) CF7 (Nat.le_of_ble_eq_true rfl) fl_RX7_9 dX7_takeApart_55 ?_
    obtain ⟨x10, h11, h⟩ := bnd h
    refine V.getFN (gI_F h11) CF6 (Nat.le_of_ble_eq_true rfl) fl_RX7_41 dX7_takeApart_58 ?_
    obtain ⟨p12, h13, h⟩ := bnd h
    have w14 := w_X7_add (g := g) h13
    refine V.callVv (args := [LI (0 : Int32), LI (0 : Int32), LI x10]) (st := []) w14.1 (oo_X7_add h13) mk_X7_add w14.2 vc_7 ml_RX7_57 im_X7_add se_X7_add rfl (Nat.le_of_ble_eq_true rfl) (by decide) rfl (Nat.le_of_ble_eq_true rfl) dX7_takeApart_61 ?_
    refine V.aload_n dX7_takeApart_64 rfl rfl ?_
    refine V.iconst dX7_takeApart_65 ki_0 ?_
    obtain ⟨A15, h16, h⟩ := bnd h
    refine V.putF h16 rfl rfl rfl CF7 (Nat.le_of_ble_eq_true rfl) fl_RX7_29 dX7_takeApart_66 ?_
    refine V.aload_n dX7_takeApart_69 rfl rfl ?_
    obtain ⟨p17, h18, h⟩ := bnd h
    have w19 := w_X7_step (g := g) N h18
    refine V.callVv (args := []) (st := []) w19.1 (oo_X7_step h18) mk_X7_step w19.2 vc_7 ml_RX7_61 im_X7_step se_X7_step rfl (Nat.le_of_ble_eq_true rfl) (by decide) rfl (Nat.le_of_ble_eq_true rfl) dX7_takeApart_70 ?_
    obtain rfl := Option.some.inj h
    exact V.return_ dX7_takeApart_73
  · have h := (if_neg c7).symm.trans h
    refine V.iload_n dX7_takeApart_20 rfl rfl ?_
    refine V.iload_n dX7_takeApart_21 rfl rfl ?_
    refine V.icmp_lt (tgt := 45) dX7_takeApart_22 (by decide) (fun c20 => ?_) (fun c20 => ?_)
    · have h := (if_pos c20).symm.trans h
      refine V.iinc (ls' := [some (LR v0), some (LI v1), some (LI (v2 + (1 : Int32)))]) dX7_takeApart_45 rfl ki_1 (by decide) rfl rfl ?_
      refine V.goto (tgt := 9) dX7_takeApart_48 (by decide) ?_
      refine V.weak [true, true, true] ?_
      exact hk9 h
    · have h := (if_neg c20).symm.trans h
      refine V.aload_n dX7_takeApart_25 rfl rfl ?_
      obtain ⟨x21, h22, h⟩ := bnd h
      refine V.getF (gR_F h22) CF7 (Nat.le_of_ble_eq_true rfl) fl_RX7_9 dX7_takeApart_26 ?_
      refine V.iload_n dX7_takeApart_29 rfl rfl ?_
      obtain ⟨p23, h24, h⟩ := bnd h
      have w25 := w_X6_at (g := g) h24
      refine V.callVi (args := [LI v2]) (st := []) w25.1 (oo_X6_at h24) mk_X6_at w25.2 vc_6 ml_RX7_46 im_X6_at se_X6_at rfl (Nat.le_of_ble_eq_true rfl) (by decide) rfl (Nat.le_of_ble_eq_true rfl) dX7_takeApart_30 ?_
      obtain ⟨p26, h27, h⟩ := bnd h
      have w28 := w_X7_isBlank (g := g) (A := A) h27
      refine V.callSi (args := [LI p23]) (st := []) w28.1 mk_X7_isBlank w28.2 ml_RX7_50 sm_X7_isBlank rfl (Nat.le_of_ble_eq_true rfl) (by decide) rfl (Nat.le_of_ble_eq_true rfl) dX7_takeApart_33 ?_
      refine V.if_ne (tgt := 45) dX7_takeApart_36 (by decide) (fun c29 => ?_) (fun c29 => ?_)
      · have h := (if_neg c29).symm.trans h
        refine V.iinc (ls' := [some (LR v0), some (LI v1), some (LI (v2 + (1 : Int32)))]) dX7_takeApart_45 rfl ki_1 (by decide) rfl rfl ?_
        refine V.goto (tgt := 9) dX7_takeApart_48 (by decide) ?_
        refine V.weak [true, true, true] ?_
        exact hk9 h
      · have h := (if_pos c29).symm.trans h
        refine V.aload_n dX7_takeApart_39 rfl rfl ?_
        refine V.iload_n dX7_takeApart_40 rfl rfl ?_
        obtain ⟨p30, h31, h⟩ := bnd h
        have w32 := w_X7_addToken (g := g) N h31
        refine V.callVi (args := [LI v2]) (st := []) w32.1 (oo_X7_addToken h31) mk_X7_addToken w32.2 vc_7 ml_RX7_54 im_X7_addToken se_X7_addToken rfl (Nat.le_of_ble_eq_true rfl) (by decide) rfl (Nat.le_of_ble_eq_true rfl) dX7_takeApart_41 ?_
        refine V.istore_n (ls' := [some (LR v0), some (LI p30.1), some (LI v2)]) dX7_takeApart_44 rfl (by decide) rfl rfl ?_
        refine V.iinc (ls' := [some (LR v0), some (LI p30.1), some (LI (v2 + (1 : Int32)))]) dX7_takeApart_45 rfl ki_1 (by decide) rfl rfl ?_
        refine V.goto (tgt := 9) dX7_takeApart_48 (by decide) ?_
        refine V.weak [true, true, true] ?_
        exact hk9 h
def l_X7_takeApart_9 (N : Nat) : Nat → LH → Option Nat → Int32 → Int32 → Option (LH)
  | 0, _, _, _, _ => none
  | n + 1, A, v0, v1, v2 => b_X7_takeApart_9 N (l_X7_takeApart_9 N n) A v0 v1 v2
theorem wl_X7_takeApart_9 {g : GG} {n0 z0 : Nat} (N : Nat) : ∀ (n : Nat) {A : LH} {v0 : Option Nat} {v1 : Int32} {v2 : Int32} {p : LH}, l_X7_takeApart_9 N n A v0 v1 v2 = some p → V g m_X7_takeApart 6 n0 z0 none p A 9 [some (LR v0), some (LI v1), some (LI v2)] []
  | 0, _, _, _, _, _, h => nomatch h
  | n + 1, _, _, _, _, _, h => wb_X7_takeApart_9 N (wl_X7_takeApart_9 N n) h
def b_X7_takeApart (N : Nat) (A : LH) (v0 : Option Nat) : Option (LH) :=
  (pF A v0 7 4 (LI (0 : Int32))).bind fun A1 => l_X7_takeApart_9 N N A1 v0 (0 : Int32) (0 : Int32)
set_option maxRecDepth 4000 in
theorem wb_X7_takeApart {g : GG} {n0 z0 : Nat} (N : Nat) {A : LH} {v0 : Option Nat} {p : LH} (h : b_X7_takeApart N A v0 = some p) : V g m_X7_takeApart 6 n0 z0 none p A 0 [some (LR v0)] [] := by
  unfold b_X7_takeApart at h
  refine V.aload_n dX7_takeApart_0 rfl rfl ?_
  refine V.iconst dX7_takeApart_1 ki_0 ?_
  obtain ⟨A1, h2, h⟩ := bnd h
  refine V.putF h2 rfl rfl rfl CF7 (Nat.le_of_ble_eq_true rfl) fl_RX7_25 dX7_takeApart_2 ?_
  refine V.iconst dX7_takeApart_5 ki_0 ?_
  refine V.istore_n (ls' := [some (LR v0), some (LI (0 : Int32))]) dX7_takeApart_6 rfl (by decide) rfl rfl ?_
  refine V.iconst dX7_takeApart_7 ki_0 ?_
  refine V.istore_n (ls' := [some (LR v0), some (LI (0 : Int32)), some (LI (0 : Int32))]) dX7_takeApart_8 rfl (by decide) rfl rfl ?_
  refine V.weak [true, true, true] ?_
  exact wl_X7_takeApart_9 N N h
def f_X7_takeApart (N : Nat) (A : LH) (v0 : Option Nat) : Option (LH) := if isO A v0 7 = true then b_X7_takeApart N A v0 else none
theorem w_X7_takeApart {g : GG} (N : Nat) {A : LH} {v0 : Option Nat} {p : LH} (h : f_X7_takeApart N A v0 = some p) : Ct g m_X7_takeApart 6 [LR v0] A none p := by
  unfold f_X7_takeApart at h
  obtain ⟨ho, h⟩ := ifN h
  exact ⟨wb_X7_takeApart N h, trivial⟩
theorem oo_X7_takeApart {N : Nat} {A : LH} {v0 : Option Nat} {p : LH} (h : f_X7_takeApart N A v0 = some p) : isO A v0 7 = true := by unfold f_X7_takeApart at h; exact (ifN h).1
def b_X2_init (A : LH) (v0 : Option Nat) (v1 : Option Nat) : Option (LH) :=
  (f_X7_init (al A (.inr (7, [LR none, LR none, LR none, LR none, LI 0, LI 0, LI 0, LI 0, LI 0])) 9) (some (8 + hn A)) v1).bind fun p1 => (pF p1 v0 2 0 (LR (some (8 + hn A)))).bind fun A4 => (nR_ A4 3 (12 : Int32)).bind fun A6 => (pF A6 v0 2 1 (LR (some (8 + hn A4)))).bind fun A8 => (nI_ A8 0 (600 : Int32)).bind fun A10 => (pF A10 v0 2 2 (LR (some (8 + hn A8)))).bind fun A12 => (pF A12 v0 2 3 (LI (0 : Int32))).bind fun A14 => (pF A14 v0 2 4 (LI (0 : Int32))).bind fun A16 => (pF A16 v0 2 5 (LI (0 : Int32))).bind fun A18 => (pF A18 v0 2 6 (LI (-1 : Int32))).bind fun A20 => some A20
set_option maxRecDepth 4000 in
theorem wb_X2_init {g : GG} {n0 z0 : Nat} {A : LH} {v0 : Option Nat} {v1 : Option Nat} {p : LH} (ho : isO A v0 2 = true) (h : b_X2_init A v0 v1 = some p) : V g m_X2_init 2 n0 z0 none p A 0 [some (LR v0), some (LR v1)] [] := by
  unfold b_X2_init at h
  refine V.aload_n dX2_init_0 rfl rfl ?_
  refine V.objI ho ml_RX2_3 im_obj co_obj (by decide) (Nat.le_of_ble_eq_true rfl) dX2_init_1 ?_
  refine V.aload_n dX2_init_4 rfl rfl ?_
  refine V.new CF7 okT7 cl_RX2_9 in_7 ii_7 (fs := [LR none, LR none, LR none, LR none, LI 0, LI 0, LI 0, LI 0, LI 0]) rfl dX2_init_5 ?_
  refine V.dup dX2_init_8 rfl ?_
  refine V.aload_n dX2_init_9 rfl rfl ?_
  obtain ⟨p1, h2, h⟩ := bnd h
  have w3 := w_X7_init (g := g) h2
  refine V.callI (args := [LR v1]) (st := [LR (some (8 + hn A)), LR v0]) w3.1 (oo_X7_init h2) mk_X7_init rfl ml_RX2_11 im_X7_init rfl rfl (Nat.le_of_ble_eq_true rfl) (by decide) rfl (Nat.le_of_ble_eq_true rfl) dX2_init_10 ?_
  obtain ⟨A4, h5, h⟩ := bnd h
  refine V.putFF h5 (nrR _ rfl) (ftR _ rfl) rfl rfl rfl CF2 (Nat.le_of_ble_eq_true rfl) fl_RX2_14 dX2_init_13 ?_
  refine V.aload_n dX2_init_16 rfl rfl ?_
  refine V.bipush dX2_init_17 kb_12 ?_
  obtain ⟨A6, h7, h⟩ := bnd h
  refine V.newq h7 rfl cl_RX2_20 ov_3 dX2_init_19 ?_
  obtain ⟨A8, h9, h⟩ := bnd h
  refine V.putFF h9 (nrR _ rfl) (ftR _ rfl) rfl rfl rfl CF2 (Nat.le_of_ble_eq_true rfl) fl_RX2_22 dX2_init_22 ?_
  refine V.aload_n dX2_init_25 rfl rfl ?_
  refine V.sipush dX2_init_26 ks_600 ?_
  obtain ⟨A10, h11, h⟩ := bnd h
  refine V.newa (ty := .int) h11 rfl rfl rfl (fun _ z => z) (by decide) ac_0 dX2_init_29 ?_
  obtain ⟨A12, h13, h⟩ := bnd h
  refine V.putFF h13 (nrR _ rfl) (ftR _ rfl) rfl rfl rfl CF2 (Nat.le_of_ble_eq_true rfl) fl_RX2_26 dX2_init_31 ?_
  refine V.aload_n dX2_init_34 rfl rfl ?_
  refine V.iconst dX2_init_35 ki_0 ?_
  obtain ⟨A14, h15, h⟩ := bnd h
  refine V.putF h15 rfl rfl rfl CF2 (Nat.le_of_ble_eq_true rfl) fl_RX2_30 dX2_init_36 ?_
  refine V.aload_n dX2_init_39 rfl rfl ?_
  refine V.iconst dX2_init_40 ki_0 ?_
  obtain ⟨A16, h17, h⟩ := bnd h
  refine V.putF h17 rfl rfl rfl CF2 (Nat.le_of_ble_eq_true rfl) fl_RX2_34 dX2_init_41 ?_
  refine V.aload_n dX2_init_44 rfl rfl ?_
  refine V.iconst dX2_init_45 ki_0 ?_
  obtain ⟨A18, h19, h⟩ := bnd h
  refine V.putF h19 rfl rfl rfl CF2 (Nat.le_of_ble_eq_true rfl) fl_RX2_37 dX2_init_46 ?_
  refine V.aload_n dX2_init_49 rfl rfl ?_
  refine V.iconst dX2_init_50 ki_m1 ?_
  obtain ⟨A20, h21, h⟩ := bnd h
  refine V.putF h21 rfl rfl rfl CF2 (Nat.le_of_ble_eq_true rfl) fl_RX2_40 dX2_init_51 ?_
  obtain rfl := Option.some.inj h
  exact V.return_ dX2_init_54
def f_X2_init (A : LH) (v0 : Option Nat) (v1 : Option Nat) : Option (LH) := if isO A v0 2 = true then b_X2_init A v0 v1 else none
theorem w_X2_init {g : GG} {A : LH} {v0 : Option Nat} {v1 : Option Nat} {p : LH} (h : f_X2_init A v0 v1 = some p) : Ct g m_X2_init 2 [LR v0, LR v1] A none p := by
  unfold f_X2_init at h
  obtain ⟨ho, h⟩ := ifN h
  exact ⟨wb_X2_init ho h, trivial⟩
theorem oo_X2_init {A : LH} {v0 : Option Nat} {v1 : Option Nat} {p : LH} (h : f_X2_init A v0 v1 = some p) : isO A v0 2 = true := by unfold f_X2_init at h; exact (ifN h).1
def b_X2_linesRead_14 (N : Nat) (k14 : LH → Option Nat → Option Nat → Int32 → Option (Option Nat × LH)) (A : LH) (v0 : Option Nat) (v1 : Option Nat) (v2 : Int32) : Option (Option Nat × LH) :=
  (gI A v0 2 3).bind fun x5 => if x5 ≤ v2 then some (v1, A) else (gR A v0 2 1).bind fun x8 => (ln6 A x8).bind fun x10 => if x10 ≤ v2 then some (v1, A) else (gR A v0 2 1).bind fun x13 => (aR A x13 3 v2).bind fun x15 => (sR A v1 3 0 v2 x15).bind fun A17 => k14 A17 v0 v1 (v2 + (1 : Int32))
set_option maxRecDepth 4000 in
theorem wb_X2_linesRead_14 {g : GG} {n0 z0 : Nat} (N : Nat) {k14 : LH → Option Nat → Option Nat → Int32 → Option (Option Nat × LH)} {A : LH} {v0 : Option Nat} {v1 : Option Nat} {v2 : Int32} {p : Option Nat × LH} (hk14 : ∀ {A : LH} {v0 : Option Nat} {v1 : Option Nat} {v2 : Int32} {p : Option Nat × LH}, k14 A v0 v1 v2 = some p → V g m_X2_linesRead 1 n0 z0 (some (LR p.1)) p.2 A 14 [some (LR v0), some (LR v1), some (LI v2)] []) (h : b_X2_linesRead_14 N k14 A v0 v1 v2 = some p) : V g m_X2_linesRead 1 n0 z0 (some (LR p.1)) p.2 A 14 [some (LR v0), some (LR v1), some (LI v2)] [] := by
  unfold b_X2_linesRead_14 at h
  refine V.iload_n dX2_linesRead_14 rfl rfl ?_
  refine V.aload_n dX2_linesRead_15 rfl rfl ?_
  obtain ⟨x5, h6, h⟩ := bnd h
  refine V.getF (gI_F h6) CF2 (Nat.le_of_ble_eq_true rfl) fl_RX2_30 dX2_linesRead_16 ?_
  refine V.icmp_ge (tgt := 46) dX2_linesRead_19 (by decide) (fun c7 => ?_) (fun c7 => ?_)
  · have h := (if_pos c7).symm.trans h
    refine V.aload_n dX2_linesRead_46 rfl rfl ?_
    obtain rfl := Option.some.inj h
    exact V.areturn dX2_linesRead_47
  · have h := (if_neg c7).symm.trans h
    refine V.iload_n dX2_linesRead_22 rfl rfl ?_
    refine V.aload_n dX2_linesRead_23 rfl rfl ?_
    obtain ⟨x8, h9, h⟩ := bnd h
    refine V.getF (gR_F h9) CF2 (Nat.le_of_ble_eq_true rfl) fl_RX2_22 dX2_linesRead_24 ?_
    obtain ⟨x10, h11, h⟩ := bnd h
    refine V.alen (ln6_l h11) (ln6_t h11) dX2_linesRead_27 ?_
    refine V.icmp_ge (tgt := 46) dX2_linesRead_28 (by decide) (fun c12 => ?_) (fun c12 => ?_)
    · have h := (if_pos c12).symm.trans h
      refine V.aload_n dX2_linesRead_46 rfl rfl ?_
      obtain rfl := Option.some.inj h
      exact V.areturn dX2_linesRead_47
    · have h := (if_neg c12).symm.trans h
      refine V.aload_n dX2_linesRead_31 rfl rfl ?_
      refine V.iload_n dX2_linesRead_32 rfl rfl ?_
      refine V.aload_n dX2_linesRead_33 rfl rfl ?_
      obtain ⟨x13, h14, h⟩ := bnd h
      refine V.getF (gR_F h14) CF2 (Nat.le_of_ble_eq_true rfl) fl_RX2_22 dX2_linesRead_34 ?_
      refine V.iload_n dX2_linesRead_37 rfl rfl ?_
      obtain ⟨x15, h16, h⟩ := bnd h
      refine V.aald h16 rfl dX2_linesRead_38 ?_
      obtain ⟨A17, h18, h⟩ := bnd h
      refine V.aast h18 rfl rfl dX2_linesRead_39 ?_
      refine V.iinc (ls' := [some (LR v0), some (LR v1), some (LI (v2 + (1 : Int32)))]) dX2_linesRead_40 rfl ki_1 (by decide) rfl rfl ?_
      refine V.goto (tgt := 14) dX2_linesRead_43 (by decide) ?_
      refine V.weak [true, true, true] ?_
      exact hk14 h
def l_X2_linesRead_14 (N : Nat) : Nat → LH → Option Nat → Option Nat → Int32 → Option (Option Nat × LH)
  | 0, _, _, _, _ => none
  | n + 1, A, v0, v1, v2 => b_X2_linesRead_14 N (l_X2_linesRead_14 N n) A v0 v1 v2
theorem wl_X2_linesRead_14 {g : GG} {n0 z0 : Nat} (N : Nat) : ∀ (n : Nat) {A : LH} {v0 : Option Nat} {v1 : Option Nat} {v2 : Int32} {p : Option Nat × LH}, l_X2_linesRead_14 N n A v0 v1 v2 = some p → V g m_X2_linesRead 1 n0 z0 (some (LR p.1)) p.2 A 14 [some (LR v0), some (LR v1), some (LI v2)] []
  | 0, _, _, _, _, _, h => nomatch h
  | n + 1, _, _, _, _, _, h => wb_X2_linesRead_14 N (wl_X2_linesRead_14 N n) h
def b_X2_linesRead (N : Nat) (A : LH) (v0 : Option Nat) : Option (Option Nat × LH) :=
  (gI A v0 2 3).bind fun x1 => (nR_ A 3 (mmx (0 : Int32) x1)).bind fun A3 => l_X2_linesRead_14 N N A3 v0 (some (8 + hn A)) (0 : Int32)
set_option maxRecDepth 4000 in
theorem wb_X2_linesRead {g : GG} {n0 z0 : Nat} (N : Nat) {A : LH} {v0 : Option Nat} {p : Option Nat × LH} (h : b_X2_linesRead N A v0 = some p) : V g m_X2_linesRead 1 n0 z0 (some (LR p.1)) p.2 A 0 [some (LR v0)] [] := by
  unfold b_X2_linesRead at h
  refine V.iconst dX2_linesRead_0 ki_0 ?_
  refine V.aload_n dX2_linesRead_1 rfl rfl ?_
  obtain ⟨x1, h2, h⟩ := bnd h
  refine V.getF (gI_F h2) CF2 (Nat.le_of_ble_eq_true rfl) fl_RX2_30 dX2_linesRead_2 ?_
  refine V.mmx ml_RX2_72 (by decide) (Nat.le_of_ble_eq_true rfl) dX2_linesRead_5 ?_
  obtain ⟨A3, h4, h⟩ := bnd h
  refine V.newq h4 rfl cl_RX2_20 ov_3 dX2_linesRead_8 ?_
  refine V.astore_n (ls' := [some (LR v0), some (LR (some (8 + hn A)))]) dX2_linesRead_11 rfl (by decide) rfl rfl ?_
  refine V.iconst dX2_linesRead_12 ki_0 ?_
  refine V.istore_n (ls' := [some (LR v0), some (LR (some (8 + hn A))), some (LI (0 : Int32))]) dX2_linesRead_13 rfl (by decide) rfl rfl ?_
  refine V.weak [true, true, true] ?_
  exact wl_X2_linesRead_14 N N h
def f_X2_linesRead (N : Nat) (A : LH) (v0 : Option Nat) : Option (Option Nat × LH) := if isO A v0 2 = true then b_X2_linesRead N A v0 else none
theorem w_X2_linesRead {g : GG} (N : Nat) {A : LH} {v0 : Option Nat} {p : Option Nat × LH} (h : f_X2_linesRead N A v0 = some p) : Ct g m_X2_linesRead 1 [LR v0] A (some (LR p.1)) p.2 := by
  unfold f_X2_linesRead at h
  obtain ⟨ho, h⟩ := ifN h
  exact ⟨wb_X2_linesRead N h, (Or.inr ⟨_, rfl⟩)⟩
theorem oo_X2_linesRead {N : Nat} {A : LH} {v0 : Option Nat} {p : Option Nat × LH} (h : f_X2_linesRead N A v0 = some p) : isO A v0 2 = true := by unfold f_X2_linesRead at h; exact (ifN h).1
def b_X2_refuse_24 (A : LH) (v0 : Option Nat) : Option (LH) :=
  (gR A v0 2 0).bind fun x4 => (pF A x4 7 6 (LI (2 : Int32))).bind fun A6 => some A6
set_option maxRecDepth 4000 in
theorem wb_X2_refuse_24 {g : GG} {n0 z0 : Nat} {A : LH} {v0 : Option Nat} {p : LH} (h : b_X2_refuse_24 A v0 = some p) : V g m_X2_refuse 0 n0 z0 none p A 24 [some (LR v0)] [] := by
  unfold b_X2_refuse_24 at h
  refine V.aload_n dX2_refuse_24 rfl rfl ?_
  obtain ⟨x4, h5, h⟩ := bnd h
  refine V.getF (gR_F h5) CF2 (Nat.le_of_ble_eq_true rfl) fl_RX2_14 dX2_refuse_25 ?_
  refine V.iconst dX2_refuse_28 ki_2 ?_
  obtain ⟨A6, h7, h⟩ := bnd h
  refine V.putFN h7 rfl rfl rfl CF7 (Nat.le_of_ble_eq_true rfl) fl_RX2_57 dX2_refuse_29 ?_
  obtain rfl := Option.some.inj h
  exact V.return_ dX2_refuse_32
def b_X2_refuse (A : LH) (v0 : Option Nat) : Option (LH) :=
  (gI A v0 2 5).bind fun x1 => if x1 = (1 : Int32) then b_X2_refuse_24 A v0 else (pF A v0 2 5 (LI (1 : Int32))).bind fun A8 => (gR A8 v0 2 0).bind fun x10 => (gI A8 x10 7 8).bind fun x12 => (pF A8 v0 2 6 (LI x12)).bind fun A14 => b_X2_refuse_24 A14 v0
set_option maxRecDepth 4000 in
theorem wb_X2_refuse {g : GG} {n0 z0 : Nat} {A : LH} {v0 : Option Nat} {p : LH} (h : b_X2_refuse A v0 = some p) : V g m_X2_refuse 0 n0 z0 none p A 0 [some (LR v0)] [] := by
  unfold b_X2_refuse at h
  refine V.aload_n dX2_refuse_0 rfl rfl ?_
  obtain ⟨x1, h2, h⟩ := bnd h
  refine V.getF (gI_F h2) CF2 (Nat.le_of_ble_eq_true rfl) fl_RX2_37 dX2_refuse_1 ?_
  refine V.iconst dX2_refuse_4 ki_1 ?_
  refine V.icmp_eq (tgt := 24) dX2_refuse_5 (by decide) (fun c3 => ?_) (fun c3 => ?_)
  · have h := (if_pos c3).symm.trans h
    refine V.weak [true] ?_
    exact wb_X2_refuse_24 h
  · have h := (if_neg c3).symm.trans h
    refine V.aload_n dX2_refuse_8 rfl rfl ?_
    refine V.iconst dX2_refuse_9 ki_1 ?_
    obtain ⟨A8, h9, h⟩ := bnd h
    refine V.putF h9 rfl rfl rfl CF2 (Nat.le_of_ble_eq_true rfl) fl_RX2_37 dX2_refuse_10 ?_
    refine V.aload_n dX2_refuse_13 rfl rfl ?_
    refine V.aload_n dX2_refuse_14 rfl rfl ?_
    obtain ⟨x10, h11, h⟩ := bnd h
    refine V.getF (gR_F h11) CF2 (Nat.le_of_ble_eq_true rfl) fl_RX2_14 dX2_refuse_15 ?_
    obtain ⟨x12, h13, h⟩ := bnd h
    refine V.getFN (gI_F h13) CF7 (Nat.le_of_ble_eq_true rfl) fl_RX2_143 dX2_refuse_18 ?_
    obtain ⟨A14, h15, h⟩ := bnd h
    refine V.putF h15 rfl rfl rfl CF2 (Nat.le_of_ble_eq_true rfl) fl_RX2_40 dX2_refuse_21 ?_
    refine V.weak [true] ?_
    exact wb_X2_refuse_24 h
def f_X2_refuse (A : LH) (v0 : Option Nat) : Option (LH) := if isO A v0 2 = true then b_X2_refuse A v0 else none
theorem w_X2_refuse {g : GG} {A : LH} {v0 : Option Nat} {p : LH} (h : f_X2_refuse A v0 = some p) : Ct g m_X2_refuse 0 [LR v0] A none p := by
  unfold f_X2_refuse at h
  obtain ⟨ho, h⟩ := ifN h
  exact ⟨wb_X2_refuse h, trivial⟩
theorem oo_X2_refuse {A : LH} {v0 : Option Nat} {p : LH} (h : f_X2_refuse A v0 = some p) : isO A v0 2 = true := by unfold f_X2_refuse at h; exact (ifN h).1
def b_X2_choice_18 (N : Nat) (A : LH) (v0 : Option Nat) : Option (Int32 × LH) :=
  (f_X2_refuse A v0).bind fun p6 => some ((0 : Int32), p6)
set_option maxRecDepth 4000 in
theorem wb_X2_choice_18 {g : GG} {n0 z0 : Nat} (N : Nat) {A : LH} {v0 : Option Nat} {p : Int32 × LH} (h : b_X2_choice_18 N A v0 = some p) : V g m_X2_choice 1 n0 z0 (some (LI p.1)) p.2 A 18 [some (LR v0)] [] := by
  unfold b_X2_choice_18 at h
  refine V.aload_n dX2_choice_18 rfl rfl ?_
  obtain ⟨p6, h7, h⟩ := bnd h
  have w8 := w_X2_refuse (g := g) h7
  refine V.callVv (args := []) (st := []) w8.1 (oo_X2_refuse h7) mk_X2_refuse w8.2 vc_2 ml_RX2_60 im_X2_refuse se_X2_refuse rfl (Nat.le_of_ble_eq_true rfl) (by decide) rfl (Nat.le_of_ble_eq_true rfl) dX2_choice_19 ?_
  refine V.iconst dX2_choice_22 ki_0 ?_
  obtain rfl := Option.some.inj h
  exact V.ireturn dX2_choice_23
def b_X2_choice (N : Nat) (A : LH) (v0 : Option Nat) (v1 : Int32) (v2 : Int32) : Option (Int32 × LH) :=
  (gR A v0 2 0).bind fun x1 => (gI A x1 7 6).bind fun x3 => if x3 < v1 then b_X2_choice_18 N A v0 else if x3 ≤ v2 then (gR A v0 2 0).bind fun x10 => (f_X7_step N A x10).bind fun p12 => some ((x3 - v1), p12) else b_X2_choice_18 N A v0
set_option maxRecDepth 4000 in
theorem wb_X2_choice {g : GG} {n0 z0 : Nat} (N : Nat) {A : LH} {v0 : Option Nat} {v1 : Int32} {v2 : Int32} {p : Int32 × LH} (h : b_X2_choice N A v0 v1 v2 = some p) : V g m_X2_choice 1 n0 z0 (some (LI p.1)) p.2 A 0 [some (LR v0), some (LI v1), some (LI v2)] [] := by
  unfold b_X2_choice at h
  refine V.aload_n dX2_choice_0 rfl rfl ?_
  obtain ⟨x1, h2, h⟩ := bnd h
  refine V.getF (gR_F h2) CF2 (Nat.le_of_ble_eq_true rfl) fl_RX2_14 dX2_choice_1 ?_
  obtain ⟨x3, h4, h⟩ := bnd h
  refine V.getFN (gI_F h4) CF7 (Nat.le_of_ble_eq_true rfl) fl_RX2_57 dX2_choice_4 ?_
  refine V.istore_n (ls' := [some (LR v0), some (LI v1), some (LI v2), some (LI x3)]) dX2_choice_7 rfl (by decide) rfl rfl ?_
  refine V.iload_n dX2_choice_8 rfl rfl ?_
  refine V.iload_n dX2_choice_9 rfl rfl ?_
  refine V.icmp_lt (tgt := 18) dX2_choice_10 (by decide) (fun c5 => ?_) (fun c5 => ?_)
  · have h := (if_pos c5).symm.trans h
    refine V.weak [true] ?_
    exact wb_X2_choice_18 N h
  · have h := (if_neg c5).symm.trans h
    refine V.iload_n dX2_choice_13 rfl rfl ?_
    refine V.iload_n dX2_choice_14 rfl rfl ?_
    refine V.icmp_le (tgt := 24) dX2_choice_15 (by decide) (fun c9 => ?_) (fun c9 => ?_)
    · have h := (if_pos c9).symm.trans h
      refine V.aload_n dX2_choice_24 rfl rfl ?_
      obtain ⟨x10, h11, h⟩ := bnd h
      refine V.getF (gR_F h11) CF2 (Nat.le_of_ble_eq_true rfl) fl_RX2_14 dX2_choice_25 ?_
      obtain ⟨p12, h13, h⟩ := bnd h
      have w14 := w_X7_step (g := g) N h13
      refine V.callVv (args := []) (st := []) w14.1 (oo_X7_step h13) mk_X7_step w14.2 vc_7 ml_RX2_121 im_X7_step se_X7_step rfl (Nat.le_of_ble_eq_true rfl) (by decide) rfl (Nat.le_of_ble_eq_true rfl) dX2_choice_28 ?_
      refine V.iload_n dX2_choice_31 rfl rfl ?_
      refine V.iload_n dX2_choice_32 rfl rfl ?_
      refine V.isub dX2_choice_33 ?_
      obtain rfl := Option.some.inj h
      exact V.ireturn dX2_choice_34
    · have h := (if_neg c9).symm.trans h
      refine V.weak [true] ?_
      exact wb_X2_choice_18 N h
def f_X2_choice (N : Nat) (A : LH) (v0 : Option Nat) (v1 : Int32) (v2 : Int32) : Option (Int32 × LH) := if isO A v0 2 = true then b_X2_choice N A v0 v1 v2 else none
theorem w_X2_choice {g : GG} (N : Nat) {A : LH} {v0 : Option Nat} {v1 : Int32} {v2 : Int32} {p : Int32 × LH} (h : f_X2_choice N A v0 v1 v2 = some p) : Ct g m_X2_choice 1 [LR v0, LI v1, LI v2] A (some (LI p.1)) p.2 := by
  unfold f_X2_choice at h
  obtain ⟨ho, h⟩ := ifN h
  exact ⟨wb_X2_choice N h, rfl⟩
theorem oo_X2_choice {N : Nat} {A : LH} {v0 : Option Nat} {v1 : Int32} {v2 : Int32} {p : Int32 × LH} (h : f_X2_choice N A v0 v1 v2 = some p) : isO A v0 2 = true := by unfold f_X2_choice at h; exact (ifN h).1
def b_X2_needs (N : Nat) (A : LH) (v0 : Option Nat) (v1 : Int32) : Option (LH) :=
  (gR A v0 2 0).bind fun x1 => (gI A x1 7 6).bind fun x3 => if x3 = v1 then (gR A v0 2 0).bind fun x9 => (f_X7_step N A x9).bind fun p11 => some p11 else (f_X2_refuse A v0).bind fun p6 => some p6
set_option maxRecDepth 4000 in
theorem wb_X2_needs {g : GG} {n0 z0 : Nat} (N : Nat) {A : LH} {v0 : Option Nat} {v1 : Int32} {p : LH} (h : b_X2_needs N A v0 v1 = some p) : V g m_X2_needs 1 n0 z0 none p A 0 [some (LR v0), some (LI v1)] [] := by
  unfold b_X2_needs at h
  refine V.aload_n dX2_needs_0 rfl rfl ?_
  obtain ⟨x1, h2, h⟩ := bnd h
  refine V.getF (gR_F h2) CF2 (Nat.le_of_ble_eq_true rfl) fl_RX2_14 dX2_needs_1 ?_
  obtain ⟨x3, h4, h⟩ := bnd h
  refine V.getFN (gI_F h4) CF7 (Nat.le_of_ble_eq_true rfl) fl_RX2_57 dX2_needs_4 ?_
  refine V.iload_n dX2_needs_7 rfl rfl ?_
  refine V.icmp_ne (tgt := 21) dX2_needs_8 (by decide) (fun c5 => ?_) (fun c5 => ?_)
  · have h := (if_neg c5).symm.trans h
    refine V.aload_n dX2_needs_21 rfl rfl ?_
    obtain ⟨p6, h7, h⟩ := bnd h
    have w8 := w_X2_refuse (g := g) h7
    refine V.callVv (args := []) (st := []) w8.1 (oo_X2_refuse h7) mk_X2_refuse w8.2 vc_2 ml_RX2_60 im_X2_refuse se_X2_refuse rfl (Nat.le_of_ble_eq_true rfl) (by decide) rfl (Nat.le_of_ble_eq_true rfl) dX2_needs_22 ?_
    obtain rfl := Option.some.inj h
    exact V.return_ dX2_needs_25
  · have h := (if_pos c5).symm.trans h
    refine V.aload_n dX2_needs_11 rfl rfl ?_
    obtain ⟨x9, h10, h⟩ := bnd h
    refine V.getF (gR_F h10) CF2 (Nat.le_of_ble_eq_true rfl) fl_RX2_14 dX2_needs_12 ?_
    obtain ⟨p11, h12, h⟩ := bnd h
    have w13 := w_X7_step (g := g) N h12
    refine V.callVv (args := []) (st := []) w13.1 (oo_X7_step h12) mk_X7_step w13.2 vc_7 ml_RX2_121 im_X7_step se_X7_step rfl (Nat.le_of_ble_eq_true rfl) (by decide) rfl (Nat.le_of_ble_eq_true rfl) dX2_needs_15 ?_
    refine V.goto (tgt := 25) dX2_needs_18 (by decide) ?_
    obtain rfl := Option.some.inj h
    exact V.return_ dX2_needs_25
def f_X2_needs (N : Nat) (A : LH) (v0 : Option Nat) (v1 : Int32) : Option (LH) := if isO A v0 2 = true then b_X2_needs N A v0 v1 else none
theorem w_X2_needs {g : GG} (N : Nat) {A : LH} {v0 : Option Nat} {v1 : Int32} {p : LH} (h : f_X2_needs N A v0 v1 = some p) : Ct g m_X2_needs 1 [LR v0, LI v1] A none p := by
  unfold f_X2_needs at h
  obtain ⟨ho, h⟩ := ifN h
  exact ⟨wb_X2_needs N h, trivial⟩
theorem oo_X2_needs {N : Nat} {A : LH} {v0 : Option Nat} {v1 : Int32} {p : LH} (h : f_X2_needs N A v0 v1 = some p) : isO A v0 2 = true := by unfold f_X2_needs at h; exact (ifN h).1
def b_X2_takes (N : Nat) (A : LH) (v0 : Option Nat) (v1 : Int32) : Option (Int32 × LH) :=
  (gR A v0 2 0).bind fun x1 => (gI A x1 7 6).bind fun x3 => if x3 = v1 then (gR A v0 2 0).bind fun x6 => (f_X7_step N A x6).bind fun p8 => some ((1 : Int32), p8) else some ((0 : Int32), A)
set_option maxRecDepth 4000 in
theorem wb_X2_takes {g : GG} {n0 z0 : Nat} (N : Nat) {A : LH} {v0 : Option Nat} {v1 : Int32} {p : Int32 × LH} (h : b_X2_takes N A v0 v1 = some p) : V g m_X2_takes 1 n0 z0 (some (LI p.1)) p.2 A 0 [some (LR v0), some (LI v1)] [] := by
  unfold b_X2_takes at h
  refine V.aload_n dX2_takes_0 rfl rfl ?_
  obtain ⟨x1, h2, h⟩ := bnd h
  refine V.getF (gR_F h2) CF2 (Nat.le_of_ble_eq_true rfl) fl_RX2_14 dX2_takes_1 ?_
  obtain ⟨x3, h4, h⟩ := bnd h
  refine V.getFN (gI_F h4) CF7 (Nat.le_of_ble_eq_true rfl) fl_RX2_57 dX2_takes_4 ?_
  refine V.iload_n dX2_takes_7 rfl rfl ?_
  refine V.icmp_eq (tgt := 13) dX2_takes_8 (by decide) (fun c5 => ?_) (fun c5 => ?_)
  · have h := (if_pos c5).symm.trans h
    refine V.aload_n dX2_takes_13 rfl rfl ?_
    obtain ⟨x6, h7, h⟩ := bnd h
    refine V.getF (gR_F h7) CF2 (Nat.le_of_ble_eq_true rfl) fl_RX2_14 dX2_takes_14 ?_
    obtain ⟨p8, h9, h⟩ := bnd h
    have w10 := w_X7_step (g := g) N h9
    refine V.callVv (args := []) (st := []) w10.1 (oo_X7_step h9) mk_X7_step w10.2 vc_7 ml_RX2_121 im_X7_step se_X7_step rfl (Nat.le_of_ble_eq_true rfl) (by decide) rfl (Nat.le_of_ble_eq_true rfl) dX2_takes_17 ?_
    refine V.iconst dX2_takes_20 ki_1 ?_
    obtain rfl := Option.some.inj h
    exact V.ireturn dX2_takes_21
  · have h := (if_neg c5).symm.trans h
    refine V.iconst dX2_takes_11 ki_0 ?_
    obtain rfl := Option.some.inj h
    exact V.ireturn dX2_takes_12
def f_X2_takes (N : Nat) (A : LH) (v0 : Option Nat) (v1 : Int32) : Option (Int32 × LH) := if isO A v0 2 = true then zc (b_X2_takes N A v0 v1) else none
theorem w_X2_takes {g : GG} (N : Nat) {A : LH} {v0 : Option Nat} {v1 : Int32} {p : Int32 × LH} (h : f_X2_takes N A v0 v1 = some p) : Ct g m_X2_takes 1 [LR v0, LI v1] A (some (LI p.1)) p.2 := by
  unfold f_X2_takes at h
  obtain ⟨ho, h⟩ := ifN h
  obtain ⟨h, hz⟩ := zc_sp h
  exact ⟨wb_X2_takes N h, (RTz hz)⟩
theorem oo_X2_takes {N : Nat} {A : LH} {v0 : Option Nat} {v1 : Int32} {p : Int32 × LH} (h : f_X2_takes N A v0 v1 = some p) : isO A v0 2 = true := by unfold f_X2_takes at h; exact (ifN h).1
def b_X2_readHow (N : Nat) (A : LH) (v0 : Option Nat) : Option (Int32 × LH) :=
  (f_X2_takes N A v0 (300 : Int32)).bind fun p1 => if p1.1 = 0 then some ((0 : Int32), p1.2) else (f_X2_choice N p1.2 v0 (301 : Int32) (304 : Int32)).bind fun p5 => (f_X2_needs N p5.2 v0 (59 : Int32)).bind fun p8 => some (p5.1, p8)
set_option maxRecDepth 4000 in
theorem wb_X2_readHow {g : GG} {n0 z0 : Nat} (N : Nat) {A : LH} {v0 : Option Nat} {p : Int32 × LH} (h : b_X2_readHow N A v0 = some p) : V g m_X2_readHow 2 n0 z0 (some (LI p.1)) p.2 A 0 [some (LR v0)] [] := by
  unfold b_X2_readHow at h
  refine V.aload_n dX2_readHow_0 rfl rfl ?_
  refine V.sipush dX2_readHow_1 ks_300 ?_
  obtain ⟨p1, h2, h⟩ := bnd h
  have w3 := w_X2_takes (g := g) N h2
  refine V.callVi (args := [LI (300 : Int32)]) (st := []) w3.1 (oo_X2_takes h2) mk_X2_takes w3.2 vc_2 ml_RX2_78 im_X2_takes se_X2_takes rfl (Nat.le_of_ble_eq_true rfl) (by decide) rfl (Nat.le_of_ble_eq_true rfl) dX2_readHow_4 ?_
  refine V.if_ne (tgt := 12) dX2_readHow_7 (by decide) (fun c4 => ?_) (fun c4 => ?_)
  · have h := (if_neg c4).symm.trans h
    refine V.aload_n dX2_readHow_12 rfl rfl ?_
    refine V.sipush dX2_readHow_13 ks_301 ?_
    refine V.sipush dX2_readHow_16 ks_304 ?_
    obtain ⟨p5, h6, h⟩ := bnd h
    have w7 := w_X2_choice (g := g) N h6
    refine V.callVi (args := [LI (301 : Int32), LI (304 : Int32)]) (st := []) w7.1 (oo_X2_choice h6) mk_X2_choice w7.2 vc_2 ml_RX2_82 im_X2_choice se_X2_choice rfl (Nat.le_of_ble_eq_true rfl) (by decide) rfl (Nat.le_of_ble_eq_true rfl) dX2_readHow_19 ?_
    refine V.istore_n (ls' := [some (LR v0), some (LI p5.1)]) dX2_readHow_22 rfl (by decide) rfl rfl ?_
    refine V.aload_n dX2_readHow_23 rfl rfl ?_
    refine V.bipush dX2_readHow_24 kb_59 ?_
    obtain ⟨p8, h9, h⟩ := bnd h
    have w10 := w_X2_needs (g := g) N h9
    refine V.callVv (args := [LI (59 : Int32)]) (st := []) w10.1 (oo_X2_needs h9) mk_X2_needs w10.2 vc_2 ml_RX2_85 im_X2_needs se_X2_needs rfl (Nat.le_of_ble_eq_true rfl) (by decide) rfl (Nat.le_of_ble_eq_true rfl) dX2_readHow_26 ?_
    refine V.iload_n dX2_readHow_29 rfl rfl ?_
    obtain rfl := Option.some.inj h
    exact V.ireturn dX2_readHow_30
  · have h := (if_pos c4).symm.trans h
    refine V.iconst dX2_readHow_10 ki_0 ?_
    obtain rfl := Option.some.inj h
    exact V.ireturn dX2_readHow_11
def f_X2_readHow (N : Nat) (A : LH) (v0 : Option Nat) : Option (Int32 × LH) := if isO A v0 2 = true then b_X2_readHow N A v0 else none
theorem w_X2_readHow {g : GG} (N : Nat) {A : LH} {v0 : Option Nat} {p : Int32 × LH} (h : f_X2_readHow N A v0 = some p) : Ct g m_X2_readHow 2 [LR v0] A (some (LI p.1)) p.2 := by
  unfold f_X2_readHow at h
  obtain ⟨ho, h⟩ := ifN h
  exact ⟨wb_X2_readHow N h, rfl⟩
theorem oo_X2_readHow {N : Nat} {A : LH} {v0 : Option Nat} {p : Int32 × LH} (h : f_X2_readHow N A v0 = some p) : isO A v0 2 = true := by unfold f_X2_readHow at h; exact (ifN h).1
def b_J7_copyOf_59c91 (A : LH) (v0 : Option Nat) (v1 : Int32) : Option (Option Nat × LH) :=
  (ln6 A v0).bind fun x1 => if v1 = x1 then none else (nI_ A 0 v1).bind fun A4 => (ln6 A4 v0).bind fun x6 => (cpI A4 v0 (0 : Int32) (some (8 + hn A)) (0 : Int32) (mmn x6 v1)).bind fun A8 => some ((some (8 + hn A)), A8)
set_option maxRecDepth 4000 in
theorem wb_J7_copyOf_59c91 {g : GG} {n0 z0 : Nat} {A : LH} {v0 : Option Nat} {v1 : Int32} {p : Option Nat × LH} (h : b_J7_copyOf_59c91 A v0 v1 = some p) : V g m_J7_copyOf_59c91 1 n0 z0 (some (LR p.1)) p.2 A 0 [some (LR v0), some (LI v1)] [] := by
  unfold b_J7_copyOf_59c91 at h
  refine V.iload_n dJ7_copyOf_59c91_0 rfl rfl ?_
  refine V.aload_n dJ7_copyOf_59c91_1 rfl rfl ?_
  obtain ⟨x1, h2, h⟩ := bnd h
  refine V.alen (ln6_l h2) (ln6_t h2) dJ7_copyOf_59c91_2 ?_
  refine V.icmp_ne (tgt := 14) dJ7_copyOf_59c91_3 (by decide) (fun c3 => ?_) (fun c3 => ?_)
  · have h := (if_neg c3).symm.trans h
    refine V.iload_n dJ7_copyOf_59c91_14 rfl rfl ?_
    obtain ⟨A4, h5, h⟩ := bnd h
    refine V.newa (ty := .int) h5 rfl rfl rfl (fun _ z => z) (by decide) ac_0 dJ7_copyOf_59c91_15 ?_
    refine V.astore_n (ls' := [some (LR v0), some (LI v1), some (LR (some (8 + hn A)))]) dJ7_copyOf_59c91_17 rfl (by decide) rfl rfl ?_
    refine V.aload_n dJ7_copyOf_59c91_18 rfl rfl ?_
    refine V.iconst dJ7_copyOf_59c91_19 ki_0 ?_
    refine V.aload_n dJ7_copyOf_59c91_20 rfl rfl ?_
    refine V.iconst dJ7_copyOf_59c91_21 ki_0 ?_
    refine V.aload_n dJ7_copyOf_59c91_22 rfl rfl ?_
    obtain ⟨x6, h7, h⟩ := bnd h
    refine V.alen (ln6_l h7) (ln6_t h7) dJ7_copyOf_59c91_23 ?_
    refine V.iload_n dJ7_copyOf_59c91_24 rfl rfl ?_
    refine V.mmn ml_RJ7_304 (by decide) (Nat.le_of_ble_eq_true rfl) dJ7_copyOf_59c91_25 ?_
    obtain ⟨A8, h9, h⟩ := bnd h
    refine V.copy h9 ml_RJ7_150 (by decide) (Nat.le_of_ble_eq_true rfl) dJ7_copyOf_59c91_28 ?_
    refine V.aload_n dJ7_copyOf_59c91_31 rfl rfl ?_
    obtain rfl := Option.some.inj h
    exact V.areturn dJ7_copyOf_59c91_32
  · have h := (if_pos c3).symm.trans h
    refine V.aload_n dJ7_copyOf_59c91_6 rfl rfl ?_
    exact nomatch h
def f_J7_copyOf_59c91 (A : LH) (v0 : Option Nat) (v1 : Int32) : Option (Option Nat × LH) := b_J7_copyOf_59c91 A v0 v1
theorem w_J7_copyOf_59c91 {g : GG} {A : LH} {v0 : Option Nat} {v1 : Int32} {p : Option Nat × LH} (h : f_J7_copyOf_59c91 A v0 v1 = some p) : Ct g m_J7_copyOf_59c91 1 [LR v0, LI v1] A (some (LR p.1)) p.2 := by
  unfold f_J7_copyOf_59c91 at h
  exact ⟨wb_J7_copyOf_59c91 h, (Or.inr ⟨_, rfl⟩)⟩
def b_X2_note (A : LH) (v0 : Option Nat) (v1 : Int32) : Option (LH) :=
  (gI A v0 2 5).bind fun x1 => if x1 = 0 then (pF A v0 2 5 (LI v1)).bind fun A4 => (gR A4 v0 2 0).bind fun x6 => (gI A4 x6 7 8).bind fun x8 => (pF A4 v0 2 6 (LI x8)).bind fun A10 => some A10 else some A
set_option maxRecDepth 4000 in
theorem wb_X2_note {g : GG} {n0 z0 : Nat} {A : LH} {v0 : Option Nat} {v1 : Int32} {p : LH} (h : b_X2_note A v0 v1 = some p) : V g m_X2_note 0 n0 z0 none p A 0 [some (LR v0), some (LI v1)] [] := by
  unfold b_X2_note at h
  refine V.aload_n dX2_note_0 rfl rfl ?_
  obtain ⟨x1, h2, h⟩ := bnd h
  refine V.getF (gI_F h2) CF2 (Nat.le_of_ble_eq_true rfl) fl_RX2_37 dX2_note_1 ?_
  refine V.if_ne (tgt := 23) dX2_note_4 (by decide) (fun c3 => ?_) (fun c3 => ?_)
  · have h := (if_neg c3).symm.trans h
    obtain rfl := Option.some.inj h
    exact V.return_ dX2_note_23
  · have h := (if_pos c3).symm.trans h
    refine V.aload_n dX2_note_7 rfl rfl ?_
    refine V.iload_n dX2_note_8 rfl rfl ?_
    obtain ⟨A4, h5, h⟩ := bnd h
    refine V.putF h5 rfl rfl rfl CF2 (Nat.le_of_ble_eq_true rfl) fl_RX2_37 dX2_note_9 ?_
    refine V.aload_n dX2_note_12 rfl rfl ?_
    refine V.aload_n dX2_note_13 rfl rfl ?_
    obtain ⟨x6, h7, h⟩ := bnd h
    refine V.getF (gR_F h7) CF2 (Nat.le_of_ble_eq_true rfl) fl_RX2_14 dX2_note_14 ?_
    obtain ⟨x8, h9, h⟩ := bnd h
    refine V.getFN (gI_F h9) CF7 (Nat.le_of_ble_eq_true rfl) fl_RX2_143 dX2_note_17 ?_
    obtain ⟨A10, h11, h⟩ := bnd h
    refine V.putF h11 rfl rfl rfl CF2 (Nat.le_of_ble_eq_true rfl) fl_RX2_40 dX2_note_20 ?_
    obtain rfl := Option.some.inj h
    exact V.return_ dX2_note_23
def f_X2_note (A : LH) (v0 : Option Nat) (v1 : Int32) : Option (LH) := if isO A v0 2 = true then b_X2_note A v0 v1 else none
theorem w_X2_note {g : GG} {A : LH} {v0 : Option Nat} {v1 : Int32} {p : LH} (h : f_X2_note A v0 v1 = some p) : Ct g m_X2_note 0 [LR v0, LI v1] A none p := by
  unfold f_X2_note at h
  obtain ⟨ho, h⟩ := ifN h
  exact ⟨wb_X2_note h, trivial⟩
theorem oo_X2_note {A : LH} {v0 : Option Nat} {v1 : Int32} {p : LH} (h : f_X2_note A v0 v1 = some p) : isO A v0 2 = true := by unfold f_X2_note at h; exact (ifN h).1
def b_X2_numberBehind_57 (N : Nat) (A : LH) (v0 : Option Nat) : Option (Int32 × LH) :=
  (gR A v0 2 0).bind fun x18 => (gI A x18 7 7).bind fun x20 => (gR A v0 2 0).bind fun x22 => (f_X7_step N A x22).bind fun p24 => some (x20, p24)
set_option maxRecDepth 4000 in
theorem wb_X2_numberBehind_57 {g : GG} {n0 z0 : Nat} (N : Nat) {A : LH} {v0 : Option Nat} {p : Int32 × LH} (h : b_X2_numberBehind_57 N A v0 = some p) : V g m_X2_numberBehind 1 n0 z0 (some (LI p.1)) p.2 A 57 [some (LR v0)] [] := by
  unfold b_X2_numberBehind_57 at h
  refine V.aload_n dX2_numberBehind_57 rfl rfl ?_
  obtain ⟨x18, h19, h⟩ := bnd h
  refine V.getF (gR_F h19) CF2 (Nat.le_of_ble_eq_true rfl) fl_RX2_14 dX2_numberBehind_58 ?_
  obtain ⟨x20, h21, h⟩ := bnd h
  refine V.getFN (gI_F h21) CF7 (Nat.le_of_ble_eq_true rfl) fl_RX2_118 dX2_numberBehind_61 ?_
  refine V.istore (ls' := [some (LR v0), none, none, none, some (LI x20)]) dX2_numberBehind_64 (by decide) rfl rfl ?_
  refine V.aload_n dX2_numberBehind_66 rfl rfl ?_
  obtain ⟨x22, h23, h⟩ := bnd h
  refine V.getF (gR_F h23) CF2 (Nat.le_of_ble_eq_true rfl) fl_RX2_14 dX2_numberBehind_67 ?_
  obtain ⟨p24, h25, h⟩ := bnd h
  have w26 := w_X7_step (g := g) N h25
  refine V.callVv (args := []) (st := []) w26.1 (oo_X7_step h25) mk_X7_step w26.2 vc_7 ml_RX2_121 im_X7_step se_X7_step rfl (Nat.le_of_ble_eq_true rfl) (by decide) rfl (Nat.le_of_ble_eq_true rfl) dX2_numberBehind_70 ?_
  refine V.iload dX2_numberBehind_73 rfl ?_
  obtain rfl := Option.some.inj h
  exact V.ireturn dX2_numberBehind_75
def b_X2_numberBehind_16 (N : Nat) (A : LH) (v0 : Option Nat) (s0 : Int32) : Option (Int32 × LH) :=
  if s0 = (-1 : Int32) then some ((0 : Int32), A) else (gR A v0 2 0).bind fun x8 => (gI A x8 7 6).bind fun x10 => if x10 = (1 : Int32) then (gR A v0 2 0).bind fun x13 => (gI A x13 7 7).bind fun x15 => if x15 ≤ s0 then b_X2_numberBehind_57 N A v0 else (f_X2_note A v0 (2 : Int32)).bind fun p27 => b_X2_numberBehind_57 N p27 v0 else (f_X2_refuse A v0).bind fun p30 => some ((0 : Int32), p30)
set_option maxRecDepth 4000 in
theorem wb_X2_numberBehind_16 {g : GG} {n0 z0 : Nat} (N : Nat) {A : LH} {v0 : Option Nat} {s0 : Int32} {p : Int32 × LH} (h : b_X2_numberBehind_16 N A v0 s0 = some p) : V g m_X2_numberBehind 1 n0 z0 (some (LI p.1)) p.2 A 16 [some (LR v0)] [LI s0] := by
  unfold b_X2_numberBehind_16 at h
  refine V.istore_n (ls' := [some (LR v0), none, none, some (LI s0)]) dX2_numberBehind_16 rfl (by decide) rfl rfl ?_
  refine V.iload_n dX2_numberBehind_17 rfl rfl ?_
  refine V.iconst dX2_numberBehind_18 ki_m1 ?_
  refine V.icmp_ne (tgt := 24) dX2_numberBehind_19 (by decide) (fun c7 => ?_) (fun c7 => ?_)
  · have h := (if_neg c7).symm.trans h
    refine V.aload_n dX2_numberBehind_24 rfl rfl ?_
    obtain ⟨x8, h9, h⟩ := bnd h
    refine V.getF (gR_F h9) CF2 (Nat.le_of_ble_eq_true rfl) fl_RX2_14 dX2_numberBehind_25 ?_
    obtain ⟨x10, h11, h⟩ := bnd h
    refine V.getFN (gI_F h11) CF7 (Nat.le_of_ble_eq_true rfl) fl_RX2_57 dX2_numberBehind_28 ?_
    refine V.iconst dX2_numberBehind_31 ki_1 ?_
    refine V.icmp_eq (tgt := 41) dX2_numberBehind_32 (by decide) (fun c12 => ?_) (fun c12 => ?_)
    · have h := (if_pos c12).symm.trans h
      refine V.aload_n dX2_numberBehind_41 rfl rfl ?_
      obtain ⟨x13, h14, h⟩ := bnd h
      refine V.getF (gR_F h14) CF2 (Nat.le_of_ble_eq_true rfl) fl_RX2_14 dX2_numberBehind_42 ?_
      obtain ⟨x15, h16, h⟩ := bnd h
      refine V.getFN (gI_F h16) CF7 (Nat.le_of_ble_eq_true rfl) fl_RX2_118 dX2_numberBehind_45 ?_
      refine V.iload_n dX2_numberBehind_48 rfl rfl ?_
      refine V.icmp_le (tgt := 57) dX2_numberBehind_49 (by decide) (fun c17 => ?_) (fun c17 => ?_)
      · have h := (if_pos c17).symm.trans h
        refine V.weak [true] ?_
        exact wb_X2_numberBehind_57 N h
      · have h := (if_neg c17).symm.trans h
        refine V.aload_n dX2_numberBehind_52 rfl rfl ?_
        refine V.iconst dX2_numberBehind_53 ki_2 ?_
        obtain ⟨p27, h28, h⟩ := bnd h
        have w29 := w_X2_note (g := g) h28
        refine V.callVv (args := [LI (2 : Int32)]) (st := []) w29.1 (oo_X2_note h28) mk_X2_note w29.2 vc_2 ml_RX2_89 im_X2_note se_X2_note rfl (Nat.le_of_ble_eq_true rfl) (by decide) rfl (Nat.le_of_ble_eq_true rfl) dX2_numberBehind_54 ?_
        refine V.weak [true] ?_
        exact wb_X2_numberBehind_57 N h
    · have h := (if_neg c12).symm.trans h
      refine V.aload_n dX2_numberBehind_35 rfl rfl ?_
      obtain ⟨p30, h31, h⟩ := bnd h
      have w32 := w_X2_refuse (g := g) h31
      refine V.callVv (args := []) (st := []) w32.1 (oo_X2_refuse h31) mk_X2_refuse w32.2 vc_2 ml_RX2_60 im_X2_refuse se_X2_refuse rfl (Nat.le_of_ble_eq_true rfl) (by decide) rfl (Nat.le_of_ble_eq_true rfl) dX2_numberBehind_36 ?_
      refine V.iconst dX2_numberBehind_39 ki_0 ?_
      obtain rfl := Option.some.inj h
      exact V.ireturn dX2_numberBehind_40
  · have h := (if_pos c7).symm.trans h
    refine V.iconst dX2_numberBehind_22 ki_0 ?_
    obtain rfl := Option.some.inj h
    exact V.ireturn dX2_numberBehind_23
def b_X2_numberBehind (N : Nat) (A : LH) (v0 : Option Nat) (v1 : Option Nat) (v2 : Int32) : Option (Int32 × LH) :=
  (ln6 A v1).bind fun x1 => (f_X10_isIn v2 x1).bind fun p3 => if p3 = 0 then b_X2_numberBehind_16 N A v0 (-1 : Int32) else (aI A v1 0 v2).bind fun x33 => b_X2_numberBehind_16 N A v0 x33
set_option maxRecDepth 4000 in
theorem wb_X2_numberBehind {g : GG} {n0 z0 : Nat} (N : Nat) {A : LH} {v0 : Option Nat} {v1 : Option Nat} {v2 : Int32} {p : Int32 × LH} (h : b_X2_numberBehind N A v0 v1 v2 = some p) : V g m_X2_numberBehind 1 n0 z0 (some (LI p.1)) p.2 A 0 [some (LR v0), some (LR v1), some (LI v2)] [] := by
  unfold b_X2_numberBehind at h
  refine V.iload_n dX2_numberBehind_0 rfl rfl ?_
  refine V.aload_n dX2_numberBehind_1 rfl rfl ?_
  obtain ⟨x1, h2, h⟩ := bnd h
  refine V.alen (ln6_l h2) (ln6_t h2) dX2_numberBehind_2 ?_
  obtain ⟨p3, h4, h⟩ := bnd h
  have w5 := w_X10_isIn (g := g) (A := A) h4
  refine V.callSNi (args := [LI v2, LI x1]) (st := []) w5.1 mk_X10_isIn w5.2 ml_RX2_114 sm_X10_isIn rfl (Nat.le_of_ble_eq_true rfl) (by decide) rfl (Nat.le_of_ble_eq_true rfl) dX2_numberBehind_3 ?_
  refine V.if_eq (tgt := 15) dX2_numberBehind_6 (by decide) (fun c6 => ?_) (fun c6 => ?_)
  · have h := (if_pos c6).symm.trans h
    refine V.iconst dX2_numberBehind_15 ki_m1 ?_
    refine V.weak [true] ?_
    exact wb_X2_numberBehind_16 N h
  · have h := (if_neg c6).symm.trans h
    refine V.aload_n dX2_numberBehind_9 rfl rfl ?_
    refine V.iload_n dX2_numberBehind_10 rfl rfl ?_
    obtain ⟨x33, h34, h⟩ := bnd h
    refine V.iald h34 dX2_numberBehind_11 ?_
    refine V.goto (tgt := 16) dX2_numberBehind_12 (by decide) ?_
    refine V.weak [true] ?_
    exact wb_X2_numberBehind_16 N h
def f_X2_numberBehind (N : Nat) (A : LH) (v0 : Option Nat) (v1 : Option Nat) (v2 : Int32) : Option (Int32 × LH) := if isO A v0 2 = true then b_X2_numberBehind N A v0 v1 v2 else none
theorem w_X2_numberBehind {g : GG} (N : Nat) {A : LH} {v0 : Option Nat} {v1 : Option Nat} {v2 : Int32} {p : Int32 × LH} (h : f_X2_numberBehind N A v0 v1 v2 = some p) : Ct g m_X2_numberBehind 1 [LR v0, LR v1, LI v2] A (some (LI p.1)) p.2 := by
  unfold f_X2_numberBehind at h
  obtain ⟨ho, h⟩ := ifN h
  exact ⟨wb_X2_numberBehind N h, rfl⟩
theorem oo_X2_numberBehind {N : Nat} {A : LH} {v0 : Option Nat} {v1 : Option Nat} {v2 : Int32} {p : Int32 × LH} (h : f_X2_numberBehind N A v0 v1 v2 = some p) : isO A v0 2 = true := by unfold f_X2_numberBehind at h; exact (ifN h).1
def b_X2_addStep (A : LH) (v0 : Option Nat) (v1 : Int32) (v2 : Int32) (v3 : Int32) : Option (LH) :=
  (gI A v0 2 4).bind fun x1 => (gR A v0 2 2).bind fun x3 => (ln6 A x3).bind fun x5 => if x5 ≤ x1 then some A else (gR A v0 2 2).bind fun x8 => (gI A v0 2 4).bind fun x10 => (f_X0_step v1 v2 v3).bind fun p12 => (sI A x8 0 x10 p12).bind fun A15 => (gI A15 v0 2 4).bind fun x17 => (pF A15 v0 2 4 (LI (x17 + (1 : Int32)))).bind fun A19 => some A19
set_option maxRecDepth 4000 in
theorem wb_X2_addStep {g : GG} {n0 z0 : Nat} {A : LH} {v0 : Option Nat} {v1 : Int32} {v2 : Int32} {v3 : Int32} {p : LH} (h : b_X2_addStep A v0 v1 v2 v3 = some p) : V g m_X2_addStep 1 n0 z0 none p A 0 [some (LR v0), some (LI v1), some (LI v2), some (LI v3)] [] := by
  unfold b_X2_addStep at h
  refine V.aload_n dX2_addStep_0 rfl rfl ?_
  obtain ⟨x1, h2, h⟩ := bnd h
  refine V.getF (gI_F h2) CF2 (Nat.le_of_ble_eq_true rfl) fl_RX2_34 dX2_addStep_1 ?_
  refine V.aload_n dX2_addStep_4 rfl rfl ?_
  obtain ⟨x3, h4, h⟩ := bnd h
  refine V.getF (gR_F h4) CF2 (Nat.le_of_ble_eq_true rfl) fl_RX2_26 dX2_addStep_5 ?_
  obtain ⟨x5, h6, h⟩ := bnd h
  refine V.alen (ln6_l h6) (ln6_t h6) dX2_addStep_8 ?_
  refine V.icmp_ge (tgt := 37) dX2_addStep_9 (by decide) (fun c7 => ?_) (fun c7 => ?_)
  · have h := (if_pos c7).symm.trans h
    obtain rfl := Option.some.inj h
    exact V.return_ dX2_addStep_37
  · have h := (if_neg c7).symm.trans h
    refine V.aload_n dX2_addStep_12 rfl rfl ?_
    obtain ⟨x8, h9, h⟩ := bnd h
    refine V.getF (gR_F h9) CF2 (Nat.le_of_ble_eq_true rfl) fl_RX2_26 dX2_addStep_13 ?_
    refine V.aload_n dX2_addStep_16 rfl rfl ?_
    obtain ⟨x10, h11, h⟩ := bnd h
    refine V.getF (gI_F h11) CF2 (Nat.le_of_ble_eq_true rfl) fl_RX2_34 dX2_addStep_17 ?_
    refine V.iload_n dX2_addStep_20 rfl rfl ?_
    refine V.iload_n dX2_addStep_21 rfl rfl ?_
    refine V.iload_n dX2_addStep_22 rfl rfl ?_
    obtain ⟨p12, h13, h⟩ := bnd h
    have w14 := w_X0_step (g := g) (A := A) h13
    refine V.callSi (args := [LI v1, LI v2, LI v3]) (st := [LI x10, LR x8]) w14.1 mk_X0_step w14.2 ml_RX2_140 sm_X0_step rfl (Nat.le_of_ble_eq_true rfl) (by decide) rfl (Nat.le_of_ble_eq_true rfl) dX2_addStep_23 ?_
    obtain ⟨A15, h16, h⟩ := bnd h
    refine V.iast h16 dX2_addStep_26 ?_
    refine V.aload_n dX2_addStep_27 rfl rfl ?_
    refine V.dup dX2_addStep_28 rfl ?_
    obtain ⟨x17, h18, h⟩ := bnd h
    refine V.getF (gI_F h18) CF2 (Nat.le_of_ble_eq_true rfl) fl_RX2_34 dX2_addStep_29 ?_
    refine V.iconst dX2_addStep_32 ki_1 ?_
    refine V.iadd dX2_addStep_33 ?_
    obtain ⟨A19, h20, h⟩ := bnd h
    refine V.putF h20 rfl rfl rfl CF2 (Nat.le_of_ble_eq_true rfl) fl_RX2_34 dX2_addStep_34 ?_
    obtain rfl := Option.some.inj h
    exact V.return_ dX2_addStep_37
def f_X2_addStep (A : LH) (v0 : Option Nat) (v1 : Int32) (v2 : Int32) (v3 : Int32) : Option (LH) := if isO A v0 2 = true then b_X2_addStep A v0 v1 v2 v3 else none
theorem w_X2_addStep {g : GG} {A : LH} {v0 : Option Nat} {v1 : Int32} {v2 : Int32} {v3 : Int32} {p : LH} (h : f_X2_addStep A v0 v1 v2 v3 = some p) : Ct g m_X2_addStep 1 [LR v0, LI v1, LI v2, LI v3] A none p := by
  unfold f_X2_addStep at h
  obtain ⟨ho, h⟩ := ifN h
  exact ⟨wb_X2_addStep h, trivial⟩
theorem oo_X2_addStep {A : LH} {v0 : Option Nat} {v1 : Int32} {v2 : Int32} {v3 : Int32} {p : LH} (h : f_X2_addStep A v0 v1 v2 v3 = some p) : isO A v0 2 = true := by unfold f_X2_addStep at h; exact (ifN h).1
def b_X2_termAtHand (A : LH) (v0 : Option Nat) : Option (Int32) :=
  (gR A v0 2 0).bind fun x1 => (gI A x1 7 6).bind fun x3 => if x3 = 1 then (gR A v0 2 0).bind fun x6 => (gI A x6 7 7).bind fun x8 => some x8 else if x3 = 309 then some (1001 : Int32) else if x3 = 315 then some (1003 : Int32) else if x3 = 317 then some (1002 : Int32) else if x3 = 322 then some (1000 : Int32) else if x3 = 323 then some (1004 : Int32) else some (-1 : Int32)
set_option maxRecDepth 4000 in
theorem wb_X2_termAtHand {g : GG} {n0 z0 : Nat} {A : LH} {v0 : Option Nat} {p : Int32} (h : b_X2_termAtHand A v0 = some p) : V g m_X2_termAtHand 0 n0 z0 (some (LI p)) A A 0 [some (LR v0)] [] := by
  unfold b_X2_termAtHand at h
  refine V.aload_n dX2_termAtHand_0 rfl rfl ?_
  obtain ⟨x1, h2, h⟩ := bnd h
  refine V.getF (gR_F h2) CF2 (Nat.le_of_ble_eq_true rfl) fl_RX2_14 dX2_termAtHand_1 ?_
  obtain ⟨x3, h4, h⟩ := bnd h
  refine V.getFN (gI_F h4) CF7 (Nat.le_of_ble_eq_true rfl) fl_RX2_57 dX2_termAtHand_4 ?_
  by_cases c5 : x3 = 1
  · have h := (if_pos c5).symm.trans h
    refine V.lookup (tgt := 64) (off := 57) dX2_termAtHand_7 (by decide) (by rw [c5]; decide) (by decide) ?_
    refine V.aload_n dX2_termAtHand_64 rfl rfl ?_
    obtain ⟨x6, h7, h⟩ := bnd h
    refine V.getF (gR_F h7) CF2 (Nat.le_of_ble_eq_true rfl) fl_RX2_14 dX2_termAtHand_65 ?_
    obtain ⟨x8, h9, h⟩ := bnd h
    refine V.getFN (gI_F h9) CF7 (Nat.le_of_ble_eq_true rfl) fl_RX2_118 dX2_termAtHand_68 ?_
    obtain rfl := Option.some.inj h
    exact V.ireturn dX2_termAtHand_71
  have h := (if_neg c5).symm.trans h
  by_cases c10 : x3 = 309
  · have h := (if_pos c10).symm.trans h
    refine V.lookup (tgt := 76) (off := 69) dX2_termAtHand_7 (by decide) (by rw [c10]; decide) (by decide) ?_
    refine V.sipush dX2_termAtHand_76 ks_1001 ?_
    obtain rfl := Option.some.inj h
    exact V.ireturn dX2_termAtHand_79
  have h := (if_neg c10).symm.trans h
  by_cases c11 : x3 = 315
  · have h := (if_pos c11).symm.trans h
    refine V.lookup (tgt := 84) (off := 77) dX2_termAtHand_7 (by decide) (by rw [c11]; decide) (by decide) ?_
    refine V.sipush dX2_termAtHand_84 ks_1003 ?_
    obtain rfl := Option.some.inj h
    exact V.ireturn dX2_termAtHand_87
  have h := (if_neg c11).symm.trans h
  by_cases c12 : x3 = 317
  · have h := (if_pos c12).symm.trans h
    refine V.lookup (tgt := 80) (off := 73) dX2_termAtHand_7 (by decide) (by rw [c12]; decide) (by decide) ?_
    refine V.sipush dX2_termAtHand_80 ks_1002 ?_
    obtain rfl := Option.some.inj h
    exact V.ireturn dX2_termAtHand_83
  have h := (if_neg c12).symm.trans h
  by_cases c13 : x3 = 322
  · have h := (if_pos c13).symm.trans h
    refine V.lookup (tgt := 72) (off := 65) dX2_termAtHand_7 (by decide) (by rw [c13]; decide) (by decide) ?_
    refine V.sipush dX2_termAtHand_72 ks_1000 ?_
    obtain rfl := Option.some.inj h
    exact V.ireturn dX2_termAtHand_75
  have h := (if_neg c13).symm.trans h
  by_cases c14 : x3 = 323
  · have h := (if_pos c14).symm.trans h
    refine V.lookup (tgt := 88) (off := 81) dX2_termAtHand_7 (by decide) (by rw [c14]; decide) (by decide) ?_
    refine V.sipush dX2_termAtHand_88 ks_1004 ?_
    obtain rfl := Option.some.inj h
    exact V.ireturn dX2_termAtHand_91
  have h := (if_neg c14).symm.trans h
  refine V.lookup (tgt := 92) (off := 85) dX2_termAtHand_7 (by decide) (lk_out [1, 309, 315, 317, 322, 323] (by decide) (List.forall_mem_cons.mpr ⟨c5, List.forall_mem_cons.mpr ⟨c10, List.forall_mem_cons.mpr ⟨c11, List.forall_mem_cons.mpr ⟨c12, List.forall_mem_cons.mpr ⟨c13, List.forall_mem_cons.mpr ⟨c14, fun _ z => nomatch z⟩⟩⟩⟩⟩⟩)) (by decide) ?_
  refine V.iconst dX2_termAtHand_92 ki_m1 ?_
  obtain rfl := Option.some.inj h
  exact V.ireturn dX2_termAtHand_93
def f_X2_termAtHand (A : LH) (v0 : Option Nat) : Option (Int32) := if isO A v0 2 = true then b_X2_termAtHand A v0 else none
theorem w_X2_termAtHand {g : GG} {A : LH} {v0 : Option Nat} {p : Int32} (h : f_X2_termAtHand A v0 = some p) : Ct g m_X2_termAtHand 0 [LR v0] A (some (LI p)) A := by
  unfold f_X2_termAtHand at h
  obtain ⟨ho, h⟩ := ifN h
  exact ⟨wb_X2_termAtHand h, rfl⟩
theorem oo_X2_termAtHand {A : LH} {v0 : Option Nat} {p : Int32} (h : f_X2_termAtHand A v0 = some p) : isO A v0 2 = true := by unfold f_X2_termAtHand at h; exact (ifN h).1
def b_X2_readTerm (N : Nat) (A : LH) (v0 : Option Nat) : Option (Int32 × LH) :=
  (f_X2_termAtHand A v0).bind fun p1 => if p1 = (-1 : Int32) then (f_X2_refuse A v0).bind fun p10 => some ((0 : Int32), p10) else (gR A v0 2 0).bind fun x5 => (f_X7_step N A x5).bind fun p7 => some (p1, p7)
set_option maxRecDepth 4000 in
theorem wb_X2_readTerm {g : GG} {n0 z0 : Nat} (N : Nat) {A : LH} {v0 : Option Nat} {p : Int32 × LH} (h : b_X2_readTerm N A v0 = some p) : V g m_X2_readTerm 1 n0 z0 (some (LI p.1)) p.2 A 0 [some (LR v0)] [] := by
  unfold b_X2_readTerm at h
  refine V.aload_n dX2_readTerm_0 rfl rfl ?_
  obtain ⟨p1, h2, h⟩ := bnd h
  have w3 := w_X2_termAtHand (g := g) h2
  refine V.callVi (args := []) (st := []) w3.1 (oo_X2_termAtHand h2) mk_X2_termAtHand w3.2 vc_2 ml_RX2_137 im_X2_termAtHand se_X2_termAtHand rfl (Nat.le_of_ble_eq_true rfl) (by decide) rfl (Nat.le_of_ble_eq_true rfl) dX2_readTerm_1 ?_
  refine V.istore_n (ls' := [some (LR v0), some (LI p1)]) dX2_readTerm_4 rfl (by decide) rfl rfl ?_
  refine V.iload_n dX2_readTerm_5 rfl rfl ?_
  refine V.iconst dX2_readTerm_6 ki_m1 ?_
  refine V.icmp_ne (tgt := 16) dX2_readTerm_7 (by decide) (fun c4 => ?_) (fun c4 => ?_)
  · have h := (if_neg c4).symm.trans h
    refine V.aload_n dX2_readTerm_16 rfl rfl ?_
    obtain ⟨x5, h6, h⟩ := bnd h
    refine V.getF (gR_F h6) CF2 (Nat.le_of_ble_eq_true rfl) fl_RX2_14 dX2_readTerm_17 ?_
    obtain ⟨p7, h8, h⟩ := bnd h
    have w9 := w_X7_step (g := g) N h8
    refine V.callVv (args := []) (st := []) w9.1 (oo_X7_step h8) mk_X7_step w9.2 vc_7 ml_RX2_121 im_X7_step se_X7_step rfl (Nat.le_of_ble_eq_true rfl) (by decide) rfl (Nat.le_of_ble_eq_true rfl) dX2_readTerm_20 ?_
    refine V.iload_n dX2_readTerm_23 rfl rfl ?_
    obtain rfl := Option.some.inj h
    exact V.ireturn dX2_readTerm_24
  · have h := (if_pos c4).symm.trans h
    refine V.aload_n dX2_readTerm_10 rfl rfl ?_
    obtain ⟨p10, h11, h⟩ := bnd h
    have w12 := w_X2_refuse (g := g) h11
    refine V.callVv (args := []) (st := []) w12.1 (oo_X2_refuse h11) mk_X2_refuse w12.2 vc_2 ml_RX2_60 im_X2_refuse se_X2_refuse rfl (Nat.le_of_ble_eq_true rfl) (by decide) rfl (Nat.le_of_ble_eq_true rfl) dX2_readTerm_11 ?_
    refine V.iconst dX2_readTerm_14 ki_0 ?_
    obtain rfl := Option.some.inj h
    exact V.ireturn dX2_readTerm_15
def f_X2_readTerm (N : Nat) (A : LH) (v0 : Option Nat) : Option (Int32 × LH) := if isO A v0 2 = true then b_X2_readTerm N A v0 else none
theorem w_X2_readTerm {g : GG} (N : Nat) {A : LH} {v0 : Option Nat} {p : Int32 × LH} (h : f_X2_readTerm N A v0 = some p) : Ct g m_X2_readTerm 1 [LR v0] A (some (LI p.1)) p.2 := by
  unfold f_X2_readTerm at h
  obtain ⟨ho, h⟩ := ifN h
  exact ⟨wb_X2_readTerm N h, rfl⟩
theorem oo_X2_readTerm {N : Nat} {A : LH} {v0 : Option Nat} {p : Int32 × LH} (h : f_X2_readTerm N A v0 = some p) : isO A v0 2 = true := by unfold f_X2_readTerm at h; exact (ifN h).1
def b_X2_readOne (N : Nat) (kE : LH → Option Nat → Int32 → Option (LH)) (A : LH) (v0 : Option Nat) (v1 : Int32) : Option (LH) :=
  (f_X2_takes N A v0 (40 : Int32)).bind fun p1 => if p1.1 = 0 then (f_X2_takes N p1.2 v0 (308 : Int32)).bind fun p5 => if p5.1 = 0 then (f_X2_readTerm N p5.2 v0).bind fun p9 => (f_X2_choice N p9.2 v0 (60 : Int32) (62 : Int32)).bind fun p12 => (f_X2_readTerm N p12.2 v0).bind fun p15 => (f_X2_addStep p15.2 v0 p12.1 p9.1 p15.1).bind fun p18 => some p18 else (f_X2_addStep p5.2 v0 (3 : Int32) (0 : Int32) (0 : Int32)).bind fun p21 => some p21 else (kE p1.2 v0 (v1 + (1 : Int32))).bind fun p24 => (f_X2_needs N p24 v0 (41 : Int32)).bind fun p27 => some p27
set_option maxRecDepth 4000 in
theorem wb_X2_readOne {g : GG} {n0 z0 : Nat} (N : Nat) {kE : LH → Option Nat → Int32 → Option (LH)} {dR : Nat} (hEE : ∀ {B : LH} {x0 : Option Nat} {x1 : Int32} {q : LH}, kE B x0 x1 = some q → Ct g m_X2_readEither dR [LR x0, LI x1] B none q ∧ isO B x0 2 = true) {A : LH} {v0 : Option Nat} {v1 : Int32} {p : LH} (h : b_X2_readOne N kE A v0 v1 = some p) : V g m_X2_readOne (dR + 2) n0 z0 none p A 0 [some (LR v0), some (LI v1)] [] := by
  unfold b_X2_readOne at h
  refine V.aload_n dX2_readOne_0 rfl rfl ?_
  refine V.bipush dX2_readOne_1 kb_40 ?_
  obtain ⟨p1, h2, h⟩ := bnd h
  have w3 := w_X2_takes (g := g) N h2
  refine V.callVi (args := [LI (40 : Int32)]) (st := []) w3.1 (oo_X2_takes h2) mk_X2_takes w3.2 vc_2 ml_RX2_78 im_X2_takes se_X2_takes rfl (Nat.le_of_ble_eq_true rfl) (by omega) rfl (Nat.le_of_ble_eq_true rfl) dX2_readOne_3 ?_
  refine V.if_eq (tgt := 25) dX2_readOne_6 (by decide) (fun c4 => ?_) (fun c4 => ?_)
  · have h := (if_pos c4).symm.trans h
    refine V.aload_n dX2_readOne_25 rfl rfl ?_
    refine V.sipush dX2_readOne_26 ks_308 ?_
    obtain ⟨p5, h6, h⟩ := bnd h
    have w7 := w_X2_takes (g := g) N h6
    refine V.callVi (args := [LI (308 : Int32)]) (st := []) w7.1 (oo_X2_takes h6) mk_X2_takes w7.2 vc_2 ml_RX2_78 im_X2_takes se_X2_takes rfl (Nat.le_of_ble_eq_true rfl) (by omega) rfl (Nat.le_of_ble_eq_true rfl) dX2_readOne_29 ?_
    refine V.if_eq (tgt := 45) dX2_readOne_32 (by decide) (fun c8 => ?_) (fun c8 => ?_)
    · have h := (if_pos c8).symm.trans h
      refine V.aload_n dX2_readOne_45 rfl rfl ?_
      obtain ⟨p9, h10, h⟩ := bnd h
      have w11 := w_X2_readTerm (g := g) N h10
      refine V.callVi (args := []) (st := []) w11.1 (oo_X2_readTerm h10) mk_X2_readTerm w11.2 vc_2 ml_RX2_134 im_X2_readTerm se_X2_readTerm rfl (Nat.le_of_ble_eq_true rfl) (by omega) rfl (Nat.le_of_ble_eq_true rfl) dX2_readOne_46 ?_
      refine V.istore_n (ls' := [some (LR v0), some (LI v1), some (LI p9.1)]) dX2_readOne_49 rfl (by decide) rfl rfl ?_
      refine V.aload_n dX2_readOne_50 rfl rfl ?_
      refine V.bipush dX2_readOne_51 kb_60 ?_
      refine V.bipush dX2_readOne_53 kb_62 ?_
      obtain ⟨p12, h13, h⟩ := bnd h
      have w14 := w_X2_choice (g := g) N h13
      refine V.callVi (args := [LI (60 : Int32), LI (62 : Int32)]) (st := []) w14.1 (oo_X2_choice h13) mk_X2_choice w14.2 vc_2 ml_RX2_82 im_X2_choice se_X2_choice rfl (Nat.le_of_ble_eq_true rfl) (by omega) rfl (Nat.le_of_ble_eq_true rfl) dX2_readOne_55 ?_
      refine V.istore_n (ls' := [some (LR v0), some (LI v1), some (LI p9.1), some (LI p12.1)]) dX2_readOne_58 rfl (by decide) rfl rfl ?_
      refine V.aload_n dX2_readOne_59 rfl rfl ?_
      obtain ⟨p15, h16, h⟩ := bnd h
      have w17 := w_X2_readTerm (g := g) N h16
      refine V.callVi (args := []) (st := []) w17.1 (oo_X2_readTerm h16) mk_X2_readTerm w17.2 vc_2 ml_RX2_134 im_X2_readTerm se_X2_readTerm rfl (Nat.le_of_ble_eq_true rfl) (by omega) rfl (Nat.le_of_ble_eq_true rfl) dX2_readOne_60 ?_
      refine V.istore (ls' := [some (LR v0), some (LI v1), some (LI p9.1), some (LI p12.1), some (LI p15.1)]) dX2_readOne_63 (by decide) rfl rfl ?_
      refine V.aload_n dX2_readOne_65 rfl rfl ?_
      refine V.iload_n dX2_readOne_66 rfl rfl ?_
      refine V.iload_n dX2_readOne_67 rfl rfl ?_
      refine V.iload dX2_readOne_68 rfl ?_
      obtain ⟨p18, h19, h⟩ := bnd h
      have w20 := w_X2_addStep (g := g) h19
      refine V.callVv (args := [LI p12.1, LI p9.1, LI p15.1]) (st := []) w20.1 (oo_X2_addStep h19) mk_X2_addStep w20.2 vc_2 ml_RX2_127 im_X2_addStep se_X2_addStep rfl (Nat.le_of_ble_eq_true rfl) (by omega) rfl (Nat.le_of_ble_eq_true rfl) dX2_readOne_70 ?_
      obtain rfl := Option.some.inj h
      exact V.return_ dX2_readOne_73
    · have h := (if_neg c8).symm.trans h
      refine V.aload_n dX2_readOne_35 rfl rfl ?_
      refine V.iconst dX2_readOne_36 ki_3 ?_
      refine V.iconst dX2_readOne_37 ki_0 ?_
      refine V.iconst dX2_readOne_38 ki_0 ?_
      obtain ⟨p21, h22, h⟩ := bnd h
      have w23 := w_X2_addStep (g := g) h22
      refine V.callVv (args := [LI (3 : Int32), LI (0 : Int32), LI (0 : Int32)]) (st := []) w23.1 (oo_X2_addStep h22) mk_X2_addStep w23.2 vc_2 ml_RX2_127 im_X2_addStep se_X2_addStep rfl (Nat.le_of_ble_eq_true rfl) (by omega) rfl (Nat.le_of_ble_eq_true rfl) dX2_readOne_39 ?_
      refine V.goto (tgt := 73) dX2_readOne_42 (by decide) ?_
      obtain rfl := Option.some.inj h
      exact V.return_ dX2_readOne_73
  · have h := (if_neg c4).symm.trans h
    refine V.aload_n dX2_readOne_9 rfl rfl ?_
    refine V.iload_n dX2_readOne_10 rfl rfl ?_
    refine V.iconst dX2_readOne_11 ki_1 ?_
    refine V.iadd dX2_readOne_12 ?_
    obtain ⟨p24, h25, h⟩ := bnd h
    obtain ⟨w26, ow26⟩ := hEE h25
    refine V.callVv (args := [LI (v1 + (1 : Int32))]) (st := []) w26.1 ow26 mk_X2_readEither w26.2 vc_2 ml_RX2_102 im_X2_readEither se_X2_readEither rfl (Nat.le_of_ble_eq_true rfl) (by omega) rfl (Nat.le_of_ble_eq_true rfl) dX2_readOne_13 ?_
    refine V.aload_n dX2_readOne_16 rfl rfl ?_
    refine V.bipush dX2_readOne_17 kb_41 ?_
    obtain ⟨p27, h28, h⟩ := bnd h
    have w29 := w_X2_needs (g := g) N h28
    refine V.callVv (args := [LI (41 : Int32)]) (st := []) w29.1 (oo_X2_needs h28) mk_X2_needs w29.2 vc_2 ml_RX2_85 im_X2_needs se_X2_needs rfl (Nat.le_of_ble_eq_true rfl) (by omega) rfl (Nat.le_of_ble_eq_true rfl) dX2_readOne_19 ?_
    refine V.goto (tgt := 73) dX2_readOne_22 (by decide) ?_
    obtain rfl := Option.some.inj h
    exact V.return_ dX2_readOne_73
def f_X2_readOne (N : Nat) (kE : LH → Option Nat → Int32 → Option (LH)) (A : LH) (v0 : Option Nat) (v1 : Int32) : Option (LH) := if isO A v0 2 = true then b_X2_readOne N kE A v0 v1 else none
theorem w_X2_readOne {g : GG} (N : Nat) {kE : LH → Option Nat → Int32 → Option (LH)} {dR : Nat} (hEE : ∀ {B : LH} {x0 : Option Nat} {x1 : Int32} {q : LH}, kE B x0 x1 = some q → Ct g m_X2_readEither dR [LR x0, LI x1] B none q ∧ isO B x0 2 = true) {A : LH} {v0 : Option Nat} {v1 : Int32} {p : LH} (h : f_X2_readOne N kE A v0 v1 = some p) : Ct g m_X2_readOne (dR + 2) [LR v0, LI v1] A none p := by
  unfold f_X2_readOne at h
  obtain ⟨ho, h⟩ := ifN h
  exact ⟨wb_X2_readOne N hEE h, trivial⟩
theorem oo_X2_readOne {N : Nat} {kE : LH → Option Nat → Int32 → Option (LH)} {A : LH} {v0 : Option Nat} {v1 : Int32} {p : LH} (h : f_X2_readOne N kE A v0 v1 = some p) : isO A v0 2 = true := by unfold f_X2_readOne at h; exact (ifN h).1
def b_X2_readBoth_47 (N : Nat) (kE : LH → Option Nat → Int32 → Option (LH)) (k2 : LH → Option Nat → Int32 → Int32 → Option (LH)) (A : LH) (v0 : Option Nat) (v1 : Int32) (v2 : Int32) : Option (LH) :=
  if v2 ≤ 0 then k2 A v0 v1 (v2 + (1 : Int32)) else (f_X2_addStep A v0 (5 : Int32) (0 : Int32) (0 : Int32)).bind fun p11 => k2 p11 v0 v1 (v2 + (1 : Int32))
set_option maxRecDepth 4000 in
theorem wb_X2_readBoth_47 {g : GG} {n0 z0 : Nat} (N : Nat) {kE : LH → Option Nat → Int32 → Option (LH)} {dR : Nat} (hEE : ∀ {B : LH} {x0 : Option Nat} {x1 : Int32} {q : LH}, kE B x0 x1 = some q → Ct g m_X2_readEither dR [LR x0, LI x1] B none q ∧ isO B x0 2 = true) {k2 : LH → Option Nat → Int32 → Int32 → Option (LH)} {A : LH} {v0 : Option Nat} {v1 : Int32} {v2 : Int32} {p : LH} (hk2 : ∀ {A : LH} {v0 : Option Nat} {v1 : Int32} {v2 : Int32} {p : LH}, k2 A v0 v1 v2 = some p → V g m_X2_readBoth (dR + 3) n0 z0 none p A 2 [some (LR v0), some (LI v1), some (LI v2)] []) (h : b_X2_readBoth_47 N kE k2 A v0 v1 v2 = some p) : V g m_X2_readBoth (dR + 3) n0 z0 none p A 47 [some (LR v0), some (LI v1), some (LI v2)] [] := by
  unfold b_X2_readBoth_47 at h
  refine V.iload_n dX2_readBoth_47 rfl rfl ?_
  refine V.if_le (tgt := 58) dX2_readBoth_48 (by decide) (fun c10 => ?_) (fun c10 => ?_)
  · have h := (if_pos c10).symm.trans h
    refine V.iinc (ls' := [some (LR v0), some (LI v1), some (LI (v2 + (1 : Int32)))]) dX2_readBoth_58 rfl ki_1 (by decide) rfl rfl ?_
    refine V.goto (tgt := 2) dX2_readBoth_61 (by decide) ?_
    refine V.weak [true, true, true] ?_
    exact hk2 h
  · have h := (if_neg c10).symm.trans h
    refine V.aload_n dX2_readBoth_51 rfl rfl ?_
    refine V.iconst dX2_readBoth_52 ki_5 ?_
    refine V.iconst dX2_readBoth_53 ki_0 ?_
    refine V.iconst dX2_readBoth_54 ki_0 ?_
    obtain ⟨p11, h12, h⟩ := bnd h
    have w13 := w_X2_addStep (g := g) h12
    refine V.callVv (args := [LI (5 : Int32), LI (0 : Int32), LI (0 : Int32)]) (st := []) w13.1 (oo_X2_addStep h12) mk_X2_addStep w13.2 vc_2 ml_RX2_127 im_X2_addStep se_X2_addStep rfl (Nat.le_of_ble_eq_true rfl) (by omega) rfl (Nat.le_of_ble_eq_true rfl) dX2_readBoth_55 ?_
    refine V.iinc (ls' := [some (LR v0), some (LI v1), some (LI (v2 + (1 : Int32)))]) dX2_readBoth_58 rfl ki_1 (by decide) rfl rfl ?_
    refine V.goto (tgt := 2) dX2_readBoth_61 (by decide) ?_
    refine V.weak [true, true, true] ?_
    exact hk2 h
def b_X2_readBoth_23 (N : Nat) (kE : LH → Option Nat → Int32 → Option (LH)) (k2 : LH → Option Nat → Int32 → Int32 → Option (LH)) (A : LH) (v0 : Option Nat) (v1 : Int32) (v2 : Int32) : Option (LH) :=
  (f_X2_takes N A v0 (321 : Int32)).bind fun p3 => (f_X2_readOne N kE p3.2 v0 v1).bind fun p6 => if p3.1 = 0 then b_X2_readBoth_47 N kE k2 p6 v0 v1 v2 else (f_X2_addStep p6 v0 (4 : Int32) (0 : Int32) (0 : Int32)).bind fun p14 => b_X2_readBoth_47 N kE k2 p14 v0 v1 v2
set_option maxRecDepth 4000 in
theorem wb_X2_readBoth_23 {g : GG} {n0 z0 : Nat} (N : Nat) {kE : LH → Option Nat → Int32 → Option (LH)} {dR : Nat} (hEE : ∀ {B : LH} {x0 : Option Nat} {x1 : Int32} {q : LH}, kE B x0 x1 = some q → Ct g m_X2_readEither dR [LR x0, LI x1] B none q ∧ isO B x0 2 = true) {k2 : LH → Option Nat → Int32 → Int32 → Option (LH)} {A : LH} {v0 : Option Nat} {v1 : Int32} {v2 : Int32} {p : LH} (hk2 : ∀ {A : LH} {v0 : Option Nat} {v1 : Int32} {v2 : Int32} {p : LH}, k2 A v0 v1 v2 = some p → V g m_X2_readBoth (dR + 3) n0 z0 none p A 2 [some (LR v0), some (LI v1), some (LI v2)] []) (h : b_X2_readBoth_23 N kE k2 A v0 v1 v2 = some p) : V g m_X2_readBoth (dR + 3) n0 z0 none p A 23 [some (LR v0), some (LI v1), some (LI v2)] [] := by
  unfold b_X2_readBoth_23 at h
  refine V.aload_n dX2_readBoth_23 rfl rfl ?_
  refine V.sipush dX2_readBoth_24 ks_321 ?_
  obtain ⟨p3, h4, h⟩ := bnd h
  have w5 := w_X2_takes (g := g) N h4
  refine V.callVi (args := [LI (321 : Int32)]) (st := []) w5.1 (oo_X2_takes h4) mk_X2_takes w5.2 vc_2 ml_RX2_78 im_X2_takes se_X2_takes rfl (Nat.le_of_ble_eq_true rfl) (by omega) rfl (Nat.le_of_ble_eq_true rfl) dX2_readBoth_27 ?_
  refine V.istore_n (ls' := [some (LR v0), some (LI v1), some (LI v2), some (LI p3.1)]) dX2_readBoth_30 rfl (by decide) rfl rfl ?_
  refine V.aload_n dX2_readBoth_31 rfl rfl ?_
  refine V.iload_n dX2_readBoth_32 rfl rfl ?_
  obtain ⟨p6, h7, h⟩ := bnd h
  have w8 := w_X2_readOne (g := g) N hEE h7
  refine V.callVv (args := [LI v1]) (st := []) w8.1 (oo_X2_readOne h7) mk_X2_readOne w8.2 vc_2 ml_RX2_131 im_X2_readOne se_X2_readOne rfl (Nat.le_of_ble_eq_true rfl) (by omega) rfl (Nat.le_of_ble_eq_true rfl) dX2_readBoth_33 ?_
  refine V.iload_n dX2_readBoth_36 rfl rfl ?_
  refine V.if_eq (tgt := 47) dX2_readBoth_37 (by decide) (fun c9 => ?_) (fun c9 => ?_)
  · have h := (if_pos c9).symm.trans h
    refine V.weak [true, true, true] ?_
    exact wb_X2_readBoth_47 N hEE hk2 h
  · have h := (if_neg c9).symm.trans h
    refine V.aload_n dX2_readBoth_40 rfl rfl ?_
    refine V.iconst dX2_readBoth_41 ki_4 ?_
    refine V.iconst dX2_readBoth_42 ki_0 ?_
    refine V.iconst dX2_readBoth_43 ki_0 ?_
    obtain ⟨p14, h15, h⟩ := bnd h
    have w16 := w_X2_addStep (g := g) h15
    refine V.callVv (args := [LI (4 : Int32), LI (0 : Int32), LI (0 : Int32)]) (st := []) w16.1 (oo_X2_addStep h15) mk_X2_addStep w16.2 vc_2 ml_RX2_127 im_X2_addStep se_X2_addStep rfl (Nat.le_of_ble_eq_true rfl) (by omega) rfl (Nat.le_of_ble_eq_true rfl) dX2_readBoth_44 ?_
    refine V.weak [true, true, true] ?_
    exact wb_X2_readBoth_47 N hEE hk2 h
def b_X2_readBoth_2 (N : Nat) (kE : LH → Option Nat → Int32 → Option (LH)) (k2 : LH → Option Nat → Int32 → Int32 → Option (LH)) (A : LH) (v0 : Option Nat) (v1 : Int32) (v2 : Int32) : Option (LH) :=
  if (600 : Int32) ≤ v2 then some A else if v2 = 0 then b_X2_readBoth_23 N kE k2 A v0 v1 v2 else (f_X2_takes N A v0 (320 : Int32)).bind fun p17 => if p17.1 = 0 then some p17.2 else b_X2_readBoth_23 N kE k2 p17.2 v0 v1 v2
set_option maxRecDepth 4000 in
theorem wb_X2_readBoth_2 {g : GG} {n0 z0 : Nat} (N : Nat) {kE : LH → Option Nat → Int32 → Option (LH)} {dR : Nat} (hEE : ∀ {B : LH} {x0 : Option Nat} {x1 : Int32} {q : LH}, kE B x0 x1 = some q → Ct g m_X2_readEither dR [LR x0, LI x1] B none q ∧ isO B x0 2 = true) {k2 : LH → Option Nat → Int32 → Int32 → Option (LH)} {A : LH} {v0 : Option Nat} {v1 : Int32} {v2 : Int32} {p : LH} (hk2 : ∀ {A : LH} {v0 : Option Nat} {v1 : Int32} {v2 : Int32} {p : LH}, k2 A v0 v1 v2 = some p → V g m_X2_readBoth (dR + 3) n0 z0 none p A 2 [some (LR v0), some (LI v1), some (LI v2)] []) (h : b_X2_readBoth_2 N kE k2 A v0 v1 v2 = some p) : V g m_X2_readBoth (dR + 3) n0 z0 none p A 2 [some (LR v0), some (LI v1), some (LI v2)] [] := by
  unfold b_X2_readBoth_2 at h
  refine V.iload_n dX2_readBoth_2 rfl rfl ?_
  refine V.sipush dX2_readBoth_3 ks_600 ?_
  refine V.icmp_ge (tgt := 64) dX2_readBoth_6 (by decide) (fun c1 => ?_) (fun c1 => ?_)
  · have h := (if_pos c1).symm.trans h
    obtain rfl := Option.some.inj h
    exact V.return_ dX2_readBoth_64
  · have h := (if_neg c1).symm.trans h
    refine V.iload_n dX2_readBoth_9 rfl rfl ?_
    refine V.if_eq (tgt := 23) dX2_readBoth_10 (by decide) (fun c2 => ?_) (fun c2 => ?_)
    · have h := (if_pos c2).symm.trans h
      refine V.weak [true, true, true] ?_
      exact wb_X2_readBoth_23 N hEE hk2 h
    · have h := (if_neg c2).symm.trans h
      refine V.aload_n dX2_readBoth_13 rfl rfl ?_
      refine V.sipush dX2_readBoth_14 ks_320 ?_
      obtain ⟨p17, h18, h⟩ := bnd h
      have w19 := w_X2_takes (g := g) N h18
      refine V.callVi (args := [LI (320 : Int32)]) (st := []) w19.1 (oo_X2_takes h18) mk_X2_takes w19.2 vc_2 ml_RX2_78 im_X2_takes se_X2_takes rfl (Nat.le_of_ble_eq_true rfl) (by omega) rfl (Nat.le_of_ble_eq_true rfl) dX2_readBoth_17 ?_
      refine V.if_eq (tgt := 64) dX2_readBoth_20 (by decide) (fun c20 => ?_) (fun c20 => ?_)
      · have h := (if_pos c20).symm.trans h
        obtain rfl := Option.some.inj h
        exact V.return_ dX2_readBoth_64
      · have h := (if_neg c20).symm.trans h
        refine V.weak [true, true, true] ?_
        exact wb_X2_readBoth_23 N hEE hk2 h
def l_X2_readBoth_2 (N : Nat) (kE : LH → Option Nat → Int32 → Option (LH)) : Nat → LH → Option Nat → Int32 → Int32 → Option (LH)
  | 0, _, _, _, _ => none
  | n + 1, A, v0, v1, v2 => b_X2_readBoth_2 N kE (l_X2_readBoth_2 N kE n) A v0 v1 v2
theorem wl_X2_readBoth_2 {g : GG} {n0 z0 : Nat} (N : Nat) {kE : LH → Option Nat → Int32 → Option (LH)} {dR : Nat} (hEE : ∀ {B : LH} {x0 : Option Nat} {x1 : Int32} {q : LH}, kE B x0 x1 = some q → Ct g m_X2_readEither dR [LR x0, LI x1] B none q ∧ isO B x0 2 = true) : ∀ (n : Nat) {A : LH} {v0 : Option Nat} {v1 : Int32} {v2 : Int32} {p : LH}, l_X2_readBoth_2 N kE n A v0 v1 v2 = some p → V g m_X2_readBoth (dR + 3) n0 z0 none p A 2 [some (LR v0), some (LI v1), some (LI v2)] []
  | 0, _, _, _, _, _, h => nomatch h
  | n + 1, _, _, _, _, _, h => wb_X2_readBoth_2 N hEE (wl_X2_readBoth_2 N hEE n) h
def b_X2_readBoth (N : Nat) (kE : LH → Option Nat → Int32 → Option (LH)) (A : LH) (v0 : Option Nat) (v1 : Int32) : Option (LH) :=
  l_X2_readBoth_2 N kE N A v0 v1 (0 : Int32)
set_option maxRecDepth 4000 in
theorem wb_X2_readBoth {g : GG} {n0 z0 : Nat} (N : Nat) {kE : LH → Option Nat → Int32 → Option (LH)} {dR : Nat} (hEE : ∀ {B : LH} {x0 : Option Nat} {x1 : Int32} {q : LH}, kE B x0 x1 = some q → Ct g m_X2_readEither dR [LR x0, LI x1] B none q ∧ isO B x0 2 = true) {A : LH} {v0 : Option Nat} {v1 : Int32} {p : LH} (h : b_X2_readBoth N kE A v0 v1 = some p) : V g m_X2_readBoth (dR + 3) n0 z0 none p A 0 [some (LR v0), some (LI v1)] [] := by
  unfold b_X2_readBoth at h
  refine V.iconst dX2_readBoth_0 ki_0 ?_
  refine V.istore_n (ls' := [some (LR v0), some (LI v1), some (LI (0 : Int32))]) dX2_readBoth_1 rfl (by decide) rfl rfl ?_
  refine V.weak [true, true, true] ?_
  exact wl_X2_readBoth_2 N hEE N h
def f_X2_readBoth (N : Nat) (kE : LH → Option Nat → Int32 → Option (LH)) (A : LH) (v0 : Option Nat) (v1 : Int32) : Option (LH) := if isO A v0 2 = true then b_X2_readBoth N kE A v0 v1 else none
theorem w_X2_readBoth {g : GG} (N : Nat) {kE : LH → Option Nat → Int32 → Option (LH)} {dR : Nat} (hEE : ∀ {B : LH} {x0 : Option Nat} {x1 : Int32} {q : LH}, kE B x0 x1 = some q → Ct g m_X2_readEither dR [LR x0, LI x1] B none q ∧ isO B x0 2 = true) {A : LH} {v0 : Option Nat} {v1 : Int32} {p : LH} (h : f_X2_readBoth N kE A v0 v1 = some p) : Ct g m_X2_readBoth (dR + 3) [LR v0, LI v1] A none p := by
  unfold f_X2_readBoth at h
  obtain ⟨ho, h⟩ := ifN h
  exact ⟨wb_X2_readBoth N hEE h, trivial⟩
theorem oo_X2_readBoth {N : Nat} {kE : LH → Option Nat → Int32 → Option (LH)} {A : LH} {v0 : Option Nat} {v1 : Int32} {p : LH} (h : f_X2_readBoth N kE A v0 v1 = some p) : isO A v0 2 = true := by unfold f_X2_readBoth at h; exact (ifN h).1
def b_X2_readEither_34 (N : Nat) (kE : LH → Option Nat → Int32 → Option (LH)) (k13 : LH → Option Nat → Int32 → Int32 → Option (LH)) (A : LH) (v0 : Option Nat) (v1 : Int32) (v2 : Int32) : Option (LH) :=
  (f_X2_readBoth N kE A v0 v1).bind fun p4 => if v2 ≤ 0 then k13 p4 v0 v1 (v2 + (1 : Int32)) else (f_X2_addStep p4 v0 (6 : Int32) (0 : Int32) (0 : Int32)).bind fun p8 => k13 p8 v0 v1 (v2 + (1 : Int32))
set_option maxRecDepth 4000 in
theorem wb_X2_readEither_34 {g : GG} {n0 z0 : Nat} (N : Nat) {kE : LH → Option Nat → Int32 → Option (LH)} {dR : Nat} (hEE : ∀ {B : LH} {x0 : Option Nat} {x1 : Int32} {q : LH}, kE B x0 x1 = some q → Ct g m_X2_readEither dR [LR x0, LI x1] B none q ∧ isO B x0 2 = true) {k13 : LH → Option Nat → Int32 → Int32 → Option (LH)} {A : LH} {v0 : Option Nat} {v1 : Int32} {v2 : Int32} {p : LH} (hk13 : ∀ {A : LH} {v0 : Option Nat} {v1 : Int32} {v2 : Int32} {p : LH}, k13 A v0 v1 v2 = some p → V g m_X2_readEither (dR + 4) n0 z0 none p A 13 [some (LR v0), some (LI v1), some (LI v2)] []) (h : b_X2_readEither_34 N kE k13 A v0 v1 v2 = some p) : V g m_X2_readEither (dR + 4) n0 z0 none p A 34 [some (LR v0), some (LI v1), some (LI v2)] [] := by
  unfold b_X2_readEither_34 at h
  refine V.aload_n dX2_readEither_34 rfl rfl ?_
  refine V.iload_n dX2_readEither_35 rfl rfl ?_
  obtain ⟨p4, h5, h⟩ := bnd h
  have w6 := w_X2_readBoth (g := g) N hEE h5
  refine V.callVv (args := [LI v1]) (st := []) w6.1 (oo_X2_readBoth h5) mk_X2_readBoth w6.2 vc_2 ml_RX2_124 im_X2_readBoth se_X2_readBoth rfl (Nat.le_of_ble_eq_true rfl) (by omega) rfl (Nat.le_of_ble_eq_true rfl) dX2_readEither_36 ?_
  refine V.iload_n dX2_readEither_39 rfl rfl ?_
  refine V.if_le (tgt := 51) dX2_readEither_40 (by decide) (fun c7 => ?_) (fun c7 => ?_)
  · have h := (if_pos c7).symm.trans h
    refine V.iinc (ls' := [some (LR v0), some (LI v1), some (LI (v2 + (1 : Int32)))]) dX2_readEither_51 rfl ki_1 (by decide) rfl rfl ?_
    refine V.goto (tgt := 13) dX2_readEither_54 (by decide) ?_
    refine V.weak [true, true, true] ?_
    exact hk13 h
  · have h := (if_neg c7).symm.trans h
    refine V.aload_n dX2_readEither_43 rfl rfl ?_
    refine V.bipush dX2_readEither_44 kb_6 ?_
    refine V.iconst dX2_readEither_46 ki_0 ?_
    refine V.iconst dX2_readEither_47 ki_0 ?_
    obtain ⟨p8, h9, h⟩ := bnd h
    have w10 := w_X2_addStep (g := g) h9
    refine V.callVv (args := [LI (6 : Int32), LI (0 : Int32), LI (0 : Int32)]) (st := []) w10.1 (oo_X2_addStep h9) mk_X2_addStep w10.2 vc_2 ml_RX2_127 im_X2_addStep se_X2_addStep rfl (Nat.le_of_ble_eq_true rfl) (by omega) rfl (Nat.le_of_ble_eq_true rfl) dX2_readEither_48 ?_
    refine V.iinc (ls' := [some (LR v0), some (LI v1), some (LI (v2 + (1 : Int32)))]) dX2_readEither_51 rfl ki_1 (by decide) rfl rfl ?_
    refine V.goto (tgt := 13) dX2_readEither_54 (by decide) ?_
    refine V.weak [true, true, true] ?_
    exact hk13 h
def b_X2_readEither_13 (N : Nat) (kE : LH → Option Nat → Int32 → Option (LH)) (k13 : LH → Option Nat → Int32 → Int32 → Option (LH)) (A : LH) (v0 : Option Nat) (v1 : Int32) (v2 : Int32) : Option (LH) :=
  if (600 : Int32) ≤ v2 then some A else if v2 = 0 then b_X2_readEither_34 N kE k13 A v0 v1 v2 else (f_X2_takes N A v0 (319 : Int32)).bind fun p11 => if p11.1 = 0 then some p11.2 else b_X2_readEither_34 N kE k13 p11.2 v0 v1 v2
set_option maxRecDepth 4000 in
theorem wb_X2_readEither_13 {g : GG} {n0 z0 : Nat} (N : Nat) {kE : LH → Option Nat → Int32 → Option (LH)} {dR : Nat} (hEE : ∀ {B : LH} {x0 : Option Nat} {x1 : Int32} {q : LH}, kE B x0 x1 = some q → Ct g m_X2_readEither dR [LR x0, LI x1] B none q ∧ isO B x0 2 = true) {k13 : LH → Option Nat → Int32 → Int32 → Option (LH)} {A : LH} {v0 : Option Nat} {v1 : Int32} {v2 : Int32} {p : LH} (hk13 : ∀ {A : LH} {v0 : Option Nat} {v1 : Int32} {v2 : Int32} {p : LH}, k13 A v0 v1 v2 = some p → V g m_X2_readEither (dR + 4) n0 z0 none p A 13 [some (LR v0), some (LI v1), some (LI v2)] []) (h : b_X2_readEither_13 N kE k13 A v0 v1 v2 = some p) : V g m_X2_readEither (dR + 4) n0 z0 none p A 13 [some (LR v0), some (LI v1), some (LI v2)] [] := by
  unfold b_X2_readEither_13 at h
  refine V.iload_n dX2_readEither_13 rfl rfl ?_
  refine V.sipush dX2_readEither_14 ks_600 ?_
  refine V.icmp_ge (tgt := 57) dX2_readEither_17 (by decide) (fun c2 => ?_) (fun c2 => ?_)
  · have h := (if_pos c2).symm.trans h
    obtain rfl := Option.some.inj h
    exact V.return_ dX2_readEither_57
  · have h := (if_neg c2).symm.trans h
    refine V.iload_n dX2_readEither_20 rfl rfl ?_
    refine V.if_eq (tgt := 34) dX2_readEither_21 (by decide) (fun c3 => ?_) (fun c3 => ?_)
    · have h := (if_pos c3).symm.trans h
      refine V.weak [true, true, true] ?_
      exact wb_X2_readEither_34 N hEE hk13 h
    · have h := (if_neg c3).symm.trans h
      refine V.aload_n dX2_readEither_24 rfl rfl ?_
      refine V.sipush dX2_readEither_25 ks_319 ?_
      obtain ⟨p11, h12, h⟩ := bnd h
      have w13 := w_X2_takes (g := g) N h12
      refine V.callVi (args := [LI (319 : Int32)]) (st := []) w13.1 (oo_X2_takes h12) mk_X2_takes w13.2 vc_2 ml_RX2_78 im_X2_takes se_X2_takes rfl (Nat.le_of_ble_eq_true rfl) (by omega) rfl (Nat.le_of_ble_eq_true rfl) dX2_readEither_28 ?_
      refine V.if_eq (tgt := 57) dX2_readEither_31 (by decide) (fun c14 => ?_) (fun c14 => ?_)
      · have h := (if_pos c14).symm.trans h
        obtain rfl := Option.some.inj h
        exact V.return_ dX2_readEither_57
      · have h := (if_neg c14).symm.trans h
        refine V.weak [true, true, true] ?_
        exact wb_X2_readEither_34 N hEE hk13 h
def l_X2_readEither_13 (N : Nat) (kE : LH → Option Nat → Int32 → Option (LH)) : Nat → LH → Option Nat → Int32 → Int32 → Option (LH)
  | 0, _, _, _, _ => none
  | n + 1, A, v0, v1, v2 => b_X2_readEither_13 N kE (l_X2_readEither_13 N kE n) A v0 v1 v2
theorem wl_X2_readEither_13 {g : GG} {n0 z0 : Nat} (N : Nat) {kE : LH → Option Nat → Int32 → Option (LH)} {dR : Nat} (hEE : ∀ {B : LH} {x0 : Option Nat} {x1 : Int32} {q : LH}, kE B x0 x1 = some q → Ct g m_X2_readEither dR [LR x0, LI x1] B none q ∧ isO B x0 2 = true) : ∀ (n : Nat) {A : LH} {v0 : Option Nat} {v1 : Int32} {v2 : Int32} {p : LH}, l_X2_readEither_13 N kE n A v0 v1 v2 = some p → V g m_X2_readEither (dR + 4) n0 z0 none p A 13 [some (LR v0), some (LI v1), some (LI v2)] []
  | 0, _, _, _, _, _, h => nomatch h
  | n + 1, _, _, _, _, _, h => wb_X2_readEither_13 N hEE (wl_X2_readEither_13 N hEE n) h
def b_X2_readEither (N : Nat) (kE : LH → Option Nat → Int32 → Option (LH)) (A : LH) (v0 : Option Nat) (v1 : Int32) : Option (LH) :=
  if v1 ≤ (6 : Int32) then l_X2_readEither_13 N kE N A v0 v1 (0 : Int32) else (f_X2_refuse A v0).bind fun p15 => some p15
set_option maxRecDepth 4000 in
theorem wb_X2_readEither {g : GG} {n0 z0 : Nat} (N : Nat) {kE : LH → Option Nat → Int32 → Option (LH)} {dR : Nat} (hEE : ∀ {B : LH} {x0 : Option Nat} {x1 : Int32} {q : LH}, kE B x0 x1 = some q → Ct g m_X2_readEither dR [LR x0, LI x1] B none q ∧ isO B x0 2 = true) {A : LH} {v0 : Option Nat} {v1 : Int32} {p : LH} (h : b_X2_readEither N kE A v0 v1 = some p) : V g m_X2_readEither (dR + 4) n0 z0 none p A 0 [some (LR v0), some (LI v1)] [] := by
  unfold b_X2_readEither at h
  refine V.iload_n dX2_readEither_0 rfl rfl ?_
  refine V.bipush dX2_readEither_1 kb_6 ?_
  refine V.icmp_le (tgt := 11) dX2_readEither_3 (by decide) (fun c1 => ?_) (fun c1 => ?_)
  · have h := (if_pos c1).symm.trans h
    refine V.iconst dX2_readEither_11 ki_0 ?_
    refine V.istore_n (ls' := [some (LR v0), some (LI v1), some (LI (0 : Int32))]) dX2_readEither_12 rfl (by decide) rfl rfl ?_
    refine V.weak [true, true, true] ?_
    exact wl_X2_readEither_13 N hEE N h
  · have h := (if_neg c1).symm.trans h
    refine V.aload_n dX2_readEither_6 rfl rfl ?_
    obtain ⟨p15, h16, h⟩ := bnd h
    have w17 := w_X2_refuse (g := g) h16
    refine V.callVv (args := []) (st := []) w17.1 (oo_X2_refuse h16) mk_X2_refuse w17.2 vc_2 ml_RX2_60 im_X2_refuse se_X2_refuse rfl (Nat.le_of_ble_eq_true rfl) (by omega) rfl (Nat.le_of_ble_eq_true rfl) dX2_readEither_7 ?_
    obtain rfl := Option.some.inj h
    exact V.return_ dX2_readEither_10
def f_X2_readEither (N : Nat) (kE : LH → Option Nat → Int32 → Option (LH)) (A : LH) (v0 : Option Nat) (v1 : Int32) : Option (LH) := if isO A v0 2 = true then b_X2_readEither N kE A v0 v1 else none
theorem w_X2_readEither {g : GG} (N : Nat) {kE : LH → Option Nat → Int32 → Option (LH)} {dR : Nat} (hEE : ∀ {B : LH} {x0 : Option Nat} {x1 : Int32} {q : LH}, kE B x0 x1 = some q → Ct g m_X2_readEither dR [LR x0, LI x1] B none q ∧ isO B x0 2 = true) {A : LH} {v0 : Option Nat} {v1 : Int32} {p : LH} (h : f_X2_readEither N kE A v0 v1 = some p) : Ct g m_X2_readEither (dR + 4) [LR v0, LI v1] A none p := by
  unfold f_X2_readEither at h
  obtain ⟨ho, h⟩ := ifN h
  exact ⟨wb_X2_readEither N hEE h, trivial⟩
theorem oo_X2_readEither {N : Nat} {kE : LH → Option Nat → Int32 → Option (LH)} {A : LH} {v0 : Option Nat} {v1 : Int32} {p : LH} (h : f_X2_readEither N kE A v0 v1 = some p) : isO A v0 2 = true := by unfold f_X2_readEither at h; exact (ifN h).1
def F_X2_readEither (N : Nat) : Nat → LH → Option Nat → Int32 → Option (LH)
  | 0, _, _, _ => none
  | n + 1, A, v0, v1 => f_X2_readEither N (F_X2_readEither N n) A v0 v1
theorem w_F_X2_readEither {g : GG} (N : Nat) : ∀ (n : Nat) {A : LH} {v0 : Option Nat} {v1 : Int32} {p : LH}, F_X2_readEither N n A v0 v1 = some p → Ct g m_X2_readEither (4 * n) [LR v0, LI v1] A none p ∧ isO A v0 2 = true
  | 0, _, _, _, _, h => nomatch h
  | n + 1, _, _, _, _, h => ⟨w_X2_readEither N (w_F_X2_readEither N n) h, oo_X2_readEither h⟩
def b_X2_readLine_125 (N : Nat) (A : LH) (v0 : Option Nat) (v1 : Int32) (v2 : Int32) (v3 : Int32) (v4 : Int32) (v5 : Int32) (v6 : Int32) : Option (LH) :=
  (f_X2_needs N A v0 (59 : Int32)).bind fun p33 => (gI p33 v0 2 3).bind fun x36 => if (12 : Int32) ≤ x36 then some p33 else (gR p33 v0 2 2).bind fun x39 => (gI p33 v0 2 4).bind fun x41 => (f_J7_copyOf_59c91 p33 x39 (mmx (0 : Int32) x41)).bind fun p43 => (gR p43.2 v0 2 1).bind fun x46 => (gI p43.2 v0 2 3).bind fun x48 => (f_X0_init (al p43.2 (.inr (0, [LI 0, LI 0, LI 0, LI 0, LI 0, LI 0, LR none])) 7) (some (8 + hn p43.2)) v1 v2 v3 v4 v5 v6 p43.1).bind fun p50 => (sR p50 x46 3 0 x48 (some (8 + hn p43.2))).bind fun A53 => (gI A53 v0 2 3).bind fun x55 => (pF A53 v0 2 3 (LI (x55 + (1 : Int32)))).bind fun A57 => some A57
set_option maxRecDepth 4000 in
theorem wb_X2_readLine_125 {g : GG} {n0 z0 : Nat} (N : Nat) {A : LH} {v0 : Option Nat} {v1 : Int32} {v2 : Int32} {v3 : Int32} {v4 : Int32} {v5 : Int32} {v6 : Int32} {p : LH} (h : b_X2_readLine_125 N A v0 v1 v2 v3 v4 v5 v6 = some p) : V g m_X2_readLine 33 n0 z0 none p A 125 [some (LR v0), some (LI v1), some (LI v2), some (LI v3), some (LI v4), some (LI v5), some (LI v6)] [] := by
  unfold b_X2_readLine_125 at h
  refine V.aload_n dX2_readLine_125 rfl rfl ?_
  refine V.bipush dX2_readLine_126 kb_59 ?_
  obtain ⟨p33, h34, h⟩ := bnd h
  have w35 := w_X2_needs (g := g) N h34
  refine V.callVv (args := [LI (59 : Int32)]) (st := []) w35.1 (oo_X2_needs h34) mk_X2_needs w35.2 vc_2 ml_RX2_85 im_X2_needs se_X2_needs rfl (Nat.le_of_ble_eq_true rfl) (by decide) rfl (Nat.le_of_ble_eq_true rfl) dX2_readLine_128 ?_
  refine V.aload_n dX2_readLine_131 rfl rfl ?_
  obtain ⟨x36, h37, h⟩ := bnd h
  refine V.getF (gI_F h37) CF2 (Nat.le_of_ble_eq_true rfl) fl_RX2_30 dX2_readLine_132 ?_
  refine V.bipush dX2_readLine_135 kb_12 ?_
  refine V.icmp_ge (tgt := 194) dX2_readLine_137 (by decide) (fun c38 => ?_) (fun c38 => ?_)
  · have h := (if_pos c38).symm.trans h
    obtain rfl := Option.some.inj h
    exact V.return_ dX2_readLine_194
  · have h := (if_neg c38).symm.trans h
    refine V.aload_n dX2_readLine_140 rfl rfl ?_
    obtain ⟨x39, h40, h⟩ := bnd h
    refine V.getF (gR_F h40) CF2 (Nat.le_of_ble_eq_true rfl) fl_RX2_26 dX2_readLine_141 ?_
    refine V.iconst dX2_readLine_144 ki_0 ?_
    refine V.aload_n dX2_readLine_145 rfl rfl ?_
    obtain ⟨x41, h42, h⟩ := bnd h
    refine V.getF (gI_F h42) CF2 (Nat.le_of_ble_eq_true rfl) fl_RX2_34 dX2_readLine_146 ?_
    refine V.mmx ml_RX2_72 (by decide) (Nat.le_of_ble_eq_true rfl) dX2_readLine_149 ?_
    obtain ⟨p43, h44, h⟩ := bnd h
    have w45 := w_J7_copyOf_59c91 (g := g) h44
    refine V.callSr (args := [LR x39, LI (mmx (0 : Int32) x41)]) (st := []) w45.1 mk_J7_copyOf_59c91 w45.2 ml_RX2_105 sm_J7_copyOf_59c91 rfl (Nat.le_of_ble_eq_true rfl) (by decide) rfl (Nat.le_of_ble_eq_true rfl) dX2_readLine_152 ?_
    refine V.astore (ls' := [some (LR v0), some (LI v1), some (LI v2), some (LI v3), some (LI v4), some (LI v5), some (LI v6), some (LR p43.1)]) dX2_readLine_155 (by decide) rfl rfl ?_
    refine V.aload_n dX2_readLine_157 rfl rfl ?_
    obtain ⟨x46, h47, h⟩ := bnd h
    refine V.getF (gR_F h47) CF2 (Nat.le_of_ble_eq_true rfl) fl_RX2_22 dX2_readLine_158 ?_
    refine V.aload_n dX2_readLine_161 rfl rfl ?_
    obtain ⟨x48, h49, h⟩ := bnd h
    refine V.getF (gI_F h49) CF2 (Nat.le_of_ble_eq_true rfl) fl_RX2_30 dX2_readLine_162 ?_
    refine V.new CF0 okT0 cl_RX2_20 in_0 ii_0 (fs := [LI 0, LI 0, LI 0, LI 0, LI 0, LI 0, LR none]) rfl dX2_readLine_165 ?_
    refine V.dup dX2_readLine_168 rfl ?_
    refine V.iload_n dX2_readLine_169 rfl rfl ?_
    refine V.iload_n dX2_readLine_170 rfl rfl ?_
    refine V.iload_n dX2_readLine_171 rfl rfl ?_
    refine V.iload dX2_readLine_172 rfl ?_
    refine V.iload dX2_readLine_174 rfl ?_
    refine V.iload dX2_readLine_176 rfl ?_
    refine V.aload dX2_readLine_178 rfl ?_
    obtain ⟨p50, h51, h⟩ := bnd h
    have w52 := w_X0_init (g := g) h51
    refine V.callI (args := [LI v1, LI v2, LI v3, LI v4, LI v5, LI v6, LR p43.1]) (st := [LR (some (8 + hn p43.2)), LI x48, LR x46]) w52.1 (oo_X0_init h51) mk_X0_init rfl ml_RX2_111 im_X0_init rfl rfl (Nat.le_of_ble_eq_true rfl) (by decide) rfl (Nat.le_of_ble_eq_true rfl) dX2_readLine_180 ?_
    obtain ⟨A53, h54, h⟩ := bnd h
    refine V.aast h54 rfl rfl dX2_readLine_183 ?_
    refine V.aload_n dX2_readLine_184 rfl rfl ?_
    refine V.dup dX2_readLine_185 rfl ?_
    obtain ⟨x55, h56, h⟩ := bnd h
    refine V.getF (gI_F h56) CF2 (Nat.le_of_ble_eq_true rfl) fl_RX2_30 dX2_readLine_186 ?_
    refine V.iconst dX2_readLine_189 ki_1 ?_
    refine V.iadd dX2_readLine_190 ?_
    obtain ⟨A57, h58, h⟩ := bnd h
    refine V.putF h58 rfl rfl rfl CF2 (Nat.le_of_ble_eq_true rfl) fl_RX2_30 dX2_readLine_191 ?_
    obtain rfl := Option.some.inj h
    exact V.return_ dX2_readLine_194
def b_X2_readLine_92 (N : Nat) (A : LH) (v0 : Option Nat) (v1 : Int32) (v2 : Int32) (v3 : Int32) (v4 : Int32) (s0 : Int32) : Option (LH) :=
  (f_X2_numberBehind N A v0 (some 2) s0).bind fun p24 => (pF p24.2 v0 2 4 (LI (0 : Int32))).bind fun A27 => (f_X2_takes N A27 v0 (318 : Int32)).bind fun p29 => if p29.1 = 0 then b_X2_readLine_125 N p29.2 v0 v1 v2 v3 v4 s0 p24.1 else (F_X2_readEither N 8 p29.2 v0 (1 : Int32)).bind fun p59 => b_X2_readLine_125 N p59 v0 v1 v2 v3 v4 s0 p24.1
set_option maxRecDepth 4000 in
theorem wb_X2_readLine_92 {g : GG} {n0 z0 : Nat} (N : Nat) {A : LH} {v0 : Option Nat} {v1 : Int32} {v2 : Int32} {v3 : Int32} {v4 : Int32} {s0 : Int32} {p : LH} (h : b_X2_readLine_92 N A v0 v1 v2 v3 v4 s0 = some p) : V g m_X2_readLine 33 n0 z0 none p A 92 [some (LR v0), some (LI v1), some (LI v2), some (LI v3), some (LI v4)] [LI s0] := by
  unfold b_X2_readLine_92 at h
  refine V.istore (ls' := [some (LR v0), some (LI v1), some (LI v2), some (LI v3), some (LI v4), some (LI s0)]) dX2_readLine_92 (by decide) rfl rfl ?_
  refine V.aload_n dX2_readLine_94 rfl rfl ?_
  refine V.getsT fl_RX2_99 dX2_readLine_95 ?_
  refine V.iload dX2_readLine_98 rfl ?_
  obtain ⟨p24, h25, h⟩ := bnd h
  have w26 := w_X2_numberBehind (g := g) N h25
  refine V.callVi (args := [LR (some 2), LI s0]) (st := []) w26.1 (oo_X2_numberBehind h25) mk_X2_numberBehind w26.2 vc_2 ml_RX2_95 im_X2_numberBehind se_X2_numberBehind rfl (Nat.le_of_ble_eq_true rfl) (by decide) rfl (Nat.le_of_ble_eq_true rfl) dX2_readLine_100 ?_
  refine V.istore (ls' := [some (LR v0), some (LI v1), some (LI v2), some (LI v3), some (LI v4), some (LI s0), some (LI p24.1)]) dX2_readLine_103 (by decide) rfl rfl ?_
  refine V.aload_n dX2_readLine_105 rfl rfl ?_
  refine V.iconst dX2_readLine_106 ki_0 ?_
  obtain ⟨A27, h28, h⟩ := bnd h
  refine V.putF h28 rfl rfl rfl CF2 (Nat.le_of_ble_eq_true rfl) fl_RX2_34 dX2_readLine_107 ?_
  refine V.aload_n dX2_readLine_110 rfl rfl ?_
  refine V.sipush dX2_readLine_111 ks_318 ?_
  obtain ⟨p29, h30, h⟩ := bnd h
  have w31 := w_X2_takes (g := g) N h30
  refine V.callVi (args := [LI (318 : Int32)]) (st := []) w31.1 (oo_X2_takes h30) mk_X2_takes w31.2 vc_2 ml_RX2_78 im_X2_takes se_X2_takes rfl (Nat.le_of_ble_eq_true rfl) (by decide) rfl (Nat.le_of_ble_eq_true rfl) dX2_readLine_114 ?_
  refine V.if_eq (tgt := 125) dX2_readLine_117 (by decide) (fun c32 => ?_) (fun c32 => ?_)
  · have h := (if_pos c32).symm.trans h
    refine V.weak [true, true, true, true, true, true, true] ?_
    exact wb_X2_readLine_125 N h
  · have h := (if_neg c32).symm.trans h
    refine V.aload_n dX2_readLine_120 rfl rfl ?_
    refine V.iconst dX2_readLine_121 ki_1 ?_
    obtain ⟨p59, h60, h⟩ := bnd h
    obtain ⟨w61, ow61⟩ := w_F_X2_readEither (g := g) N 8 h60
    refine V.callVv (args := [LI (1 : Int32)]) (st := []) w61.1 ow61 mk_X2_readEither w61.2 vc_2 ml_RX2_102 im_X2_readEither se_X2_readEither rfl (Nat.le_of_ble_eq_true rfl) (by decide) rfl (Nat.le_of_ble_eq_true rfl) dX2_readLine_122 ?_
    refine V.weak [true, true, true, true, true, true, true] ?_
    exact wb_X2_readLine_125 N h
def b_X2_readLine_33 (N : Nat) (A : LH) (v0 : Option Nat) (s0 : Int32) : Option (LH) :=
  (f_X2_choice N A v0 (305 : Int32) (309 : Int32)).bind fun p8 => (f_X2_numberBehind N p8.2 v0 (some 1) p8.1).bind fun p11 => (f_X2_choice N p11.2 v0 (310 : Int32) (314 : Int32)).bind fun p14 => (f_X2_takes N p14.2 v0 (305 : Int32)).bind fun p17 => if p17.1 = 0 then (f_X2_choice N p17.2 v0 (315 : Int32) (317 : Int32)).bind fun p21 => b_X2_readLine_92 N p21.2 v0 s0 p8.1 p11.1 p14.1 ((1 : Int32) + p21.1) else b_X2_readLine_92 N p17.2 v0 s0 p8.1 p11.1 p14.1 (0 : Int32)
set_option maxRecDepth 4000 in
theorem wb_X2_readLine_33 {g : GG} {n0 z0 : Nat} (N : Nat) {A : LH} {v0 : Option Nat} {s0 : Int32} {p : LH} (h : b_X2_readLine_33 N A v0 s0 = some p) : V g m_X2_readLine 33 n0 z0 none p A 33 [some (LR v0)] [LI s0] := by
  unfold b_X2_readLine_33 at h
  refine V.istore_n (ls' := [some (LR v0), some (LI s0)]) dX2_readLine_33 rfl (by decide) rfl rfl ?_
  refine V.aload_n dX2_readLine_34 rfl rfl ?_
  refine V.sipush dX2_readLine_35 ks_305 ?_
  refine V.sipush dX2_readLine_38 ks_309 ?_
  obtain ⟨p8, h9, h⟩ := bnd h
  have w10 := w_X2_choice (g := g) N h9
  refine V.callVi (args := [LI (305 : Int32), LI (309 : Int32)]) (st := []) w10.1 (oo_X2_choice h9) mk_X2_choice w10.2 vc_2 ml_RX2_82 im_X2_choice se_X2_choice rfl (Nat.le_of_ble_eq_true rfl) (by decide) rfl (Nat.le_of_ble_eq_true rfl) dX2_readLine_41 ?_
  refine V.istore_n (ls' := [some (LR v0), some (LI s0), some (LI p8.1)]) dX2_readLine_44 rfl (by decide) rfl rfl ?_
  refine V.aload_n dX2_readLine_45 rfl rfl ?_
  refine V.getsW fl_RX2_92 dX2_readLine_46 ?_
  refine V.iload_n dX2_readLine_49 rfl rfl ?_
  obtain ⟨p11, h12, h⟩ := bnd h
  have w13 := w_X2_numberBehind (g := g) N h12
  refine V.callVi (args := [LR (some 1), LI p8.1]) (st := []) w13.1 (oo_X2_numberBehind h12) mk_X2_numberBehind w13.2 vc_2 ml_RX2_95 im_X2_numberBehind se_X2_numberBehind rfl (Nat.le_of_ble_eq_true rfl) (by decide) rfl (Nat.le_of_ble_eq_true rfl) dX2_readLine_50 ?_
  refine V.istore_n (ls' := [some (LR v0), some (LI s0), some (LI p8.1), some (LI p11.1)]) dX2_readLine_53 rfl (by decide) rfl rfl ?_
  refine V.aload_n dX2_readLine_54 rfl rfl ?_
  refine V.sipush dX2_readLine_55 ks_310 ?_
  refine V.sipush dX2_readLine_58 ks_314 ?_
  obtain ⟨p14, h15, h⟩ := bnd h
  have w16 := w_X2_choice (g := g) N h15
  refine V.callVi (args := [LI (310 : Int32), LI (314 : Int32)]) (st := []) w16.1 (oo_X2_choice h15) mk_X2_choice w16.2 vc_2 ml_RX2_82 im_X2_choice se_X2_choice rfl (Nat.le_of_ble_eq_true rfl) (by decide) rfl (Nat.le_of_ble_eq_true rfl) dX2_readLine_61 ?_
  refine V.istore (ls' := [some (LR v0), some (LI s0), some (LI p8.1), some (LI p11.1), some (LI p14.1)]) dX2_readLine_64 (by decide) rfl rfl ?_
  refine V.aload_n dX2_readLine_66 rfl rfl ?_
  refine V.sipush dX2_readLine_67 ks_305 ?_
  obtain ⟨p17, h18, h⟩ := bnd h
  have w19 := w_X2_takes (g := g) N h18
  refine V.callVi (args := [LI (305 : Int32)]) (st := []) w19.1 (oo_X2_takes h18) mk_X2_takes w19.2 vc_2 ml_RX2_78 im_X2_takes se_X2_takes rfl (Nat.le_of_ble_eq_true rfl) (by decide) rfl (Nat.le_of_ble_eq_true rfl) dX2_readLine_70 ?_
  refine V.if_eq (tgt := 80) dX2_readLine_73 (by decide) (fun c20 => ?_) (fun c20 => ?_)
  · have h := (if_pos c20).symm.trans h
    refine V.iconst dX2_readLine_80 ki_1 ?_
    refine V.aload_n dX2_readLine_81 rfl rfl ?_
    refine V.sipush dX2_readLine_82 ks_315 ?_
    refine V.sipush dX2_readLine_85 ks_317 ?_
    obtain ⟨p21, h22, h⟩ := bnd h
    have w23 := w_X2_choice (g := g) N h22
    refine V.callVi (args := [LI (315 : Int32), LI (317 : Int32)]) (st := [LI (1 : Int32)]) w23.1 (oo_X2_choice h22) mk_X2_choice w23.2 vc_2 ml_RX2_82 im_X2_choice se_X2_choice rfl (Nat.le_of_ble_eq_true rfl) (by decide) rfl (Nat.le_of_ble_eq_true rfl) dX2_readLine_88 ?_
    refine V.iadd dX2_readLine_91 ?_
    refine V.weak [true, true, true, true, true] ?_
    exact wb_X2_readLine_92 N h
  · have h := (if_neg c20).symm.trans h
    refine V.iconst dX2_readLine_76 ki_0 ?_
    refine V.goto (tgt := 92) dX2_readLine_77 (by decide) ?_
    refine V.weak [true, true, true, true, true] ?_
    exact wb_X2_readLine_92 N h
def b_X2_readLine_14 (N : Nat) (A : LH) (v0 : Option Nat) : Option (LH) :=
  (f_X2_choice N A v0 (303 : Int32) (304 : Int32)).bind fun p4 => if p4.1 = (1 : Int32) then b_X2_readLine_33 N p4.2 v0 (1 : Int32) else b_X2_readLine_33 N p4.2 v0 (0 : Int32)
set_option maxRecDepth 4000 in
theorem wb_X2_readLine_14 {g : GG} {n0 z0 : Nat} (N : Nat) {A : LH} {v0 : Option Nat} {p : LH} (h : b_X2_readLine_14 N A v0 = some p) : V g m_X2_readLine 33 n0 z0 none p A 14 [some (LR v0)] [] := by
  unfold b_X2_readLine_14 at h
  refine V.aload_n dX2_readLine_14 rfl rfl ?_
  refine V.sipush dX2_readLine_15 ks_303 ?_
  refine V.sipush dX2_readLine_18 ks_304 ?_
  obtain ⟨p4, h5, h⟩ := bnd h
  have w6 := w_X2_choice (g := g) N h5
  refine V.callVi (args := [LI (303 : Int32), LI (304 : Int32)]) (st := []) w6.1 (oo_X2_choice h5) mk_X2_choice w6.2 vc_2 ml_RX2_82 im_X2_choice se_X2_choice rfl (Nat.le_of_ble_eq_true rfl) (by decide) rfl (Nat.le_of_ble_eq_true rfl) dX2_readLine_21 ?_
  refine V.iconst dX2_readLine_24 ki_1 ?_
  refine V.icmp_ne (tgt := 32) dX2_readLine_25 (by decide) (fun c7 => ?_) (fun c7 => ?_)
  · have h := (if_neg c7).symm.trans h
    refine V.iconst dX2_readLine_32 ki_0 ?_
    refine V.weak [true] ?_
    exact wb_X2_readLine_33 N h
  · have h := (if_pos c7).symm.trans h
    refine V.iconst dX2_readLine_28 ki_1 ?_
    refine V.goto (tgt := 33) dX2_readLine_29 (by decide) ?_
    refine V.weak [true] ?_
    exact wb_X2_readLine_33 N h
def b_X2_readLine (N : Nat) (A : LH) (v0 : Option Nat) : Option (LH) :=
  (gI A v0 2 3).bind fun x1 => if x1 = (12 : Int32) then (f_X2_note A v0 (3 : Int32)).bind fun p62 => b_X2_readLine_14 N p62 v0 else b_X2_readLine_14 N A v0
set_option maxRecDepth 4000 in
theorem wb_X2_readLine {g : GG} {n0 z0 : Nat} (N : Nat) {A : LH} {v0 : Option Nat} {p : LH} (h : b_X2_readLine N A v0 = some p) : V g m_X2_readLine 33 n0 z0 none p A 0 [some (LR v0)] [] := by
  unfold b_X2_readLine at h
  refine V.aload_n dX2_readLine_0 rfl rfl ?_
  obtain ⟨x1, h2, h⟩ := bnd h
  refine V.getF (gI_F h2) CF2 (Nat.le_of_ble_eq_true rfl) fl_RX2_30 dX2_readLine_1 ?_
  refine V.bipush dX2_readLine_4 kb_12 ?_
  refine V.icmp_ne (tgt := 14) dX2_readLine_6 (by decide) (fun c3 => ?_) (fun c3 => ?_)
  · have h := (if_neg c3).symm.trans h
    refine V.weak [true] ?_
    exact wb_X2_readLine_14 N h
  · have h := (if_pos c3).symm.trans h
    refine V.aload_n dX2_readLine_9 rfl rfl ?_
    refine V.iconst dX2_readLine_10 ki_3 ?_
    obtain ⟨p62, h63, h⟩ := bnd h
    have w64 := w_X2_note (g := g) h63
    refine V.callVv (args := [LI (3 : Int32)]) (st := []) w64.1 (oo_X2_note h63) mk_X2_note w64.2 vc_2 ml_RX2_89 im_X2_note se_X2_note rfl (Nat.le_of_ble_eq_true rfl) (by decide) rfl (Nat.le_of_ble_eq_true rfl) dX2_readLine_11 ?_
    refine V.weak [true] ?_
    exact wb_X2_readLine_14 N h
def f_X2_readLine (N : Nat) (A : LH) (v0 : Option Nat) : Option (LH) := if isO A v0 2 = true then b_X2_readLine N A v0 else none
theorem w_X2_readLine {g : GG} (N : Nat) {A : LH} {v0 : Option Nat} {p : LH} (h : f_X2_readLine N A v0 = some p) : Ct g m_X2_readLine 33 [LR v0] A none p := by
  unfold f_X2_readLine at h
  obtain ⟨ho, h⟩ := ifN h
  exact ⟨wb_X2_readLine N h, trivial⟩
theorem oo_X2_readLine {N : Nat} {A : LH} {v0 : Option Nat} {p : LH} (h : f_X2_readLine N A v0 = some p) : isO A v0 2 = true := by unfold f_X2_readLine at h; exact (ifN h).1
def b_X2_startsLine (A : LH) (v0 : Option Nat) : Option (Int32) :=
  (gR A v0 2 0).bind fun x1 => (gI A x1 7 6).bind fun x3 => if x3 = (304 : Int32) then some (1 : Int32) else (gR A v0 2 0).bind fun x6 => (gI A x6 7 6).bind fun x8 => if x8 = (303 : Int32) then some (1 : Int32) else some (0 : Int32)
set_option maxRecDepth 4000 in
theorem wb_X2_startsLine {g : GG} {n0 z0 : Nat} {A : LH} {v0 : Option Nat} {p : Int32} (h : b_X2_startsLine A v0 = some p) : V g m_X2_startsLine 0 n0 z0 (some (LI p)) A A 0 [some (LR v0)] [] := by
  unfold b_X2_startsLine at h
  refine V.aload_n dX2_startsLine_0 rfl rfl ?_
  obtain ⟨x1, h2, h⟩ := bnd h
  refine V.getF (gR_F h2) CF2 (Nat.le_of_ble_eq_true rfl) fl_RX2_14 dX2_startsLine_1 ?_
  obtain ⟨x3, h4, h⟩ := bnd h
  refine V.getFN (gI_F h4) CF7 (Nat.le_of_ble_eq_true rfl) fl_RX2_57 dX2_startsLine_4 ?_
  refine V.sipush dX2_startsLine_7 ks_304 ?_
  refine V.icmp_eq (tgt := 26) dX2_startsLine_10 (by decide) (fun c5 => ?_) (fun c5 => ?_)
  · have h := (if_pos c5).symm.trans h
    refine V.iconst dX2_startsLine_26 ki_1 ?_
    refine V.goto (tgt := 31) dX2_startsLine_27 (by decide) ?_
    obtain rfl := Option.some.inj h
    exact V.ireturn dX2_startsLine_31
  · have h := (if_neg c5).symm.trans h
    refine V.aload_n dX2_startsLine_13 rfl rfl ?_
    obtain ⟨x6, h7, h⟩ := bnd h
    refine V.getF (gR_F h7) CF2 (Nat.le_of_ble_eq_true rfl) fl_RX2_14 dX2_startsLine_14 ?_
    obtain ⟨x8, h9, h⟩ := bnd h
    refine V.getFN (gI_F h9) CF7 (Nat.le_of_ble_eq_true rfl) fl_RX2_57 dX2_startsLine_17 ?_
    refine V.sipush dX2_startsLine_20 ks_303 ?_
    refine V.icmp_ne (tgt := 30) dX2_startsLine_23 (by decide) (fun c10 => ?_) (fun c10 => ?_)
    · have h := (if_neg c10).symm.trans h
      refine V.iconst dX2_startsLine_30 ki_0 ?_
      obtain rfl := Option.some.inj h
      exact V.ireturn dX2_startsLine_31
    · have h := (if_pos c10).symm.trans h
      refine V.iconst dX2_startsLine_26 ki_1 ?_
      refine V.goto (tgt := 31) dX2_startsLine_27 (by decide) ?_
      obtain rfl := Option.some.inj h
      exact V.ireturn dX2_startsLine_31
def f_X2_startsLine (A : LH) (v0 : Option Nat) : Option (Int32) := if isO A v0 2 = true then zd (b_X2_startsLine A v0) else none
theorem w_X2_startsLine {g : GG} {A : LH} {v0 : Option Nat} {p : Int32} (h : f_X2_startsLine A v0 = some p) : Ct g m_X2_startsLine 0 [LR v0] A (some (LI p)) A := by
  unfold f_X2_startsLine at h
  obtain ⟨ho, h⟩ := ifN h
  obtain ⟨h, hz⟩ := zd_sp h
  exact ⟨wb_X2_startsLine h, (RTz hz)⟩
theorem oo_X2_startsLine {A : LH} {v0 : Option Nat} {p : Int32} (h : f_X2_startsLine A v0 = some p) : isO A v0 2 = true := by unfold f_X2_startsLine at h; exact (ifN h).1
def b_X3_letsOf_4 (N : Nat) (A : LH) (k4 : Option Nat → Int32 → Int32 → Option (Int32)) (v0 : Option Nat) (v1 : Int32) (v2 : Int32) : Option (Int32) :=
  (ln6 A v0).bind fun x1 => if x1 ≤ v2 then some v1 else (aR A v0 3 v2).bind fun x4 => if x4 = none then k4 v0 v1 (v2 + (1 : Int32)) else (aR A v0 3 v2).bind fun x7 => (gI A x7 0 0).bind fun x9 => if x9 = 0 then k4 v0 v1 (v2 + (1 : Int32)) else k4 v0 (v1 ||| ((1 : Int32) <<< (v2 &&& 31))) (v2 + (1 : Int32))
set_option maxRecDepth 4000 in
theorem wb_X3_letsOf_4 {g : GG} {n0 z0 : Nat} (N : Nat) {k4 : Option Nat → Int32 → Int32 → Option (Int32)} {A : LH} {v0 : Option Nat} {v1 : Int32} {v2 : Int32} {p : Int32} (hk4 : ∀ {v0 : Option Nat} {v1 : Int32} {v2 : Int32} {p : Int32}, k4 v0 v1 v2 = some p → V g m_X3_letsOf 0 n0 z0 (some (LI p)) A A 4 [some (LR v0), some (LI v1), some (LI v2)] []) (h : b_X3_letsOf_4 N A k4 v0 v1 v2 = some p) : V g m_X3_letsOf 0 n0 z0 (some (LI p)) A A 4 [some (LR v0), some (LI v1), some (LI v2)] [] := by
  unfold b_X3_letsOf_4 at h
  refine V.iload_n dX3_letsOf_4 rfl rfl ?_
  refine V.aload_n dX3_letsOf_5 rfl rfl ?_
  obtain ⟨x1, h2, h⟩ := bnd h
  refine V.alen (ln6_l h2) (ln6_t h2) dX3_letsOf_6 ?_
  refine V.icmp_ge (tgt := 37) dX3_letsOf_7 (by decide) (fun c3 => ?_) (fun c3 => ?_)
  · have h := (if_pos c3).symm.trans h
    refine V.iload_n dX3_letsOf_37 rfl rfl ?_
    obtain rfl := Option.some.inj h
    exact V.ireturn dX3_letsOf_38
  · have h := (if_neg c3).symm.trans h
    refine V.aload_n dX3_letsOf_10 rfl rfl ?_
    refine V.iload_n dX3_letsOf_11 rfl rfl ?_
    obtain ⟨x4, h5, h⟩ := bnd h
    refine V.aald h5 rfl dX3_letsOf_12 ?_
    refine V.ifnull_ (tgt := 31) dX3_letsOf_13 (by decide) (fun c12 => ?_) (fun c12 => ?_)
    · have h := (if_pos c12).symm.trans h
      refine V.iinc (ls' := [some (LR v0), some (LI v1), some (LI (v2 + (1 : Int32)))]) dX3_letsOf_31 rfl ki_1 (by decide) rfl rfl ?_
      refine V.goto (tgt := 4) dX3_letsOf_34 (by decide) ?_
      refine V.weak [true, true, true] ?_
      exact hk4 h
    · have h := (if_neg c12).symm.trans h
      refine V.aload_n dX3_letsOf_16 rfl rfl ?_
      refine V.iload_n dX3_letsOf_17 rfl rfl ?_
      obtain ⟨x7, h8, h⟩ := bnd h
      refine V.aald h8 rfl dX3_letsOf_18 ?_
      obtain ⟨x9, h10, h⟩ := bnd h
      refine V.getFN (gI_F h10) CF0 (Nat.le_of_ble_eq_true rfl) fl_RX3_63 dX3_letsOf_19 ?_
      refine V.if_eq (tgt := 31) dX3_letsOf_22 (by decide) (fun c11 => ?_) (fun c11 => ?_)
      · have h := (if_pos c11).symm.trans h
        refine V.iinc (ls' := [some (LR v0), some (LI v1), some (LI (v2 + (1 : Int32)))]) dX3_letsOf_31 rfl ki_1 (by decide) rfl rfl ?_
        refine V.goto (tgt := 4) dX3_letsOf_34 (by decide) ?_
        refine V.weak [true, true, true] ?_
        exact hk4 h
      · have h := (if_neg c11).symm.trans h
        refine V.iload_n dX3_letsOf_25 rfl rfl ?_
        refine V.iconst dX3_letsOf_26 ki_1 ?_
        refine V.iload_n dX3_letsOf_27 rfl rfl ?_
        refine V.ishl dX3_letsOf_28 ?_
        refine V.ior dX3_letsOf_29 ?_
        refine V.istore_n (ls' := [some (LR v0), some (LI (v1 ||| ((1 : Int32) <<< (v2 &&& 31)))), some (LI v2)]) dX3_letsOf_30 rfl (by decide) rfl rfl ?_
        refine V.iinc (ls' := [some (LR v0), some (LI (v1 ||| ((1 : Int32) <<< (v2 &&& 31)))), some (LI (v2 + (1 : Int32)))]) dX3_letsOf_31 rfl ki_1 (by decide) rfl rfl ?_
        refine V.goto (tgt := 4) dX3_letsOf_34 (by decide) ?_
        refine V.weak [true, true, true] ?_
        exact hk4 h
def l_X3_letsOf_4 (N : Nat) (A : LH) : Nat → Option Nat → Int32 → Int32 → Option (Int32)
  | 0, _, _, _ => none
  | n + 1, v0, v1, v2 => b_X3_letsOf_4 N A (l_X3_letsOf_4 N A n) v0 v1 v2
theorem wl_X3_letsOf_4 {g : GG} {n0 z0 : Nat} (N : Nat) {A : LH} : ∀ (n : Nat) {v0 : Option Nat} {v1 : Int32} {v2 : Int32} {p : Int32}, l_X3_letsOf_4 N A n v0 v1 v2 = some p → V g m_X3_letsOf 0 n0 z0 (some (LI p)) A A 4 [some (LR v0), some (LI v1), some (LI v2)] []
  | 0, _, _, _, _, h => nomatch h
  | n + 1, _, _, _, _, h => wb_X3_letsOf_4 N (wl_X3_letsOf_4 N n) h
def b_X3_letsOf (N : Nat) (A : LH) (v0 : Option Nat) : Option (Int32) :=
  l_X3_letsOf_4 N A N v0 (0 : Int32) (0 : Int32)
set_option maxRecDepth 4000 in
theorem wb_X3_letsOf {g : GG} {n0 z0 : Nat} (N : Nat) {A : LH} {v0 : Option Nat} {p : Int32} (h : b_X3_letsOf N A v0 = some p) : V g m_X3_letsOf 0 n0 z0 (some (LI p)) A A 0 [some (LR v0)] [] := by
  unfold b_X3_letsOf at h
  refine V.iconst dX3_letsOf_0 ki_0 ?_
  refine V.istore_n (ls' := [some (LR v0), some (LI (0 : Int32))]) dX3_letsOf_1 rfl (by decide) rfl rfl ?_
  refine V.iconst dX3_letsOf_2 ki_0 ?_
  refine V.istore_n (ls' := [some (LR v0), some (LI (0 : Int32)), some (LI (0 : Int32))]) dX3_letsOf_3 rfl (by decide) rfl rfl ?_
  refine V.weak [true, true, true] ?_
  exact wl_X3_letsOf_4 N N h
def f_X3_letsOf (N : Nat) (A : LH) (v0 : Option Nat) : Option (Int32) := b_X3_letsOf N A v0
theorem w_X3_letsOf {g : GG} (N : Nat) {A : LH} {v0 : Option Nat} {p : Int32} (h : f_X3_letsOf N A v0 = some p) : Ct g m_X3_letsOf 0 [LR v0] A (some (LI p)) A := by
  unfold f_X3_letsOf at h
  exact ⟨wb_X3_letsOf N h, rfl⟩
def b_X3_addLines_5 (N : Nat) (k5 : LH → Int32 → Option Nat → Int32 → Int32 → Option (Int32 × LH)) (A : LH) (v0 : Int32) (v1 : Option Nat) (v3 : Int32) (v4 : Int32) : Option (Int32 × LH) :=
  if (12 : Int32) ≤ v4 then some (v3, A) else (f_X10_hasBit v0 v4).bind fun p2 => if p2 = 0 then k5 A v0 v1 v3 (v4 + (1 : Int32)) else (ln6 A v1).bind fun x6 => (f_X10_isIn v3 x6).bind fun p8 => if p8 = 0 then k5 A v0 v1 v3 (v4 + (1 : Int32)) else (sI A v1 0 v3 v4).bind fun A12 => k5 A12 v0 v1 (v3 + (1 : Int32)) (v4 + (1 : Int32))
set_option maxRecDepth 4000 in
theorem wb_X3_addLines_5 {g : GG} {n0 z0 : Nat} (N : Nat) {k5 : LH → Int32 → Option Nat → Int32 → Int32 → Option (Int32 × LH)} {A : LH} {v0 : Int32} {v1 : Option Nat} {v3 : Int32} {v4 : Int32} {p : Int32 × LH} (hk5 : ∀ {A : LH} {v0 : Int32} {v1 : Option Nat} {v3 : Int32} {v4 : Int32} {p : Int32 × LH}, k5 A v0 v1 v3 v4 = some p → V g m_X3_addLines 1 n0 z0 (some (LI p.1)) p.2 A 5 [some (LI v0), some (LR v1), none, some (LI v3), some (LI v4)] []) (h : b_X3_addLines_5 N k5 A v0 v1 v3 v4 = some p) : V g m_X3_addLines 1 n0 z0 (some (LI p.1)) p.2 A 5 [some (LI v0), some (LR v1), none, some (LI v3), some (LI v4)] [] := by
  unfold b_X3_addLines_5 at h
  refine V.iload dX3_addLines_5 rfl ?_
  refine V.bipush dX3_addLines_7 kb_12 ?_
  refine V.icmp_ge (tgt := 44) dX3_addLines_9 (by decide) (fun c1 => ?_) (fun c1 => ?_)
  · have h := (if_pos c1).symm.trans h
    refine V.iload_n dX3_addLines_44 rfl rfl ?_
    obtain rfl := Option.some.inj h
    exact V.ireturn dX3_addLines_45
  · have h := (if_neg c1).symm.trans h
    refine V.iload_n dX3_addLines_12 rfl rfl ?_
    refine V.iload dX3_addLines_13 rfl ?_
    obtain ⟨p2, h3, h⟩ := bnd h
    have w4 := w_X10_hasBit (g := g) (A := A) h3
    refine V.callSNi (args := [LI v0, LI v4]) (st := []) w4.1 mk_X10_hasBit w4.2 ml_RX3_49 sm_X10_hasBit rfl (Nat.le_of_ble_eq_true rfl) (by decide) rfl (Nat.le_of_ble_eq_true rfl) dX3_addLines_15 ?_
    refine V.if_eq (tgt := 38) dX3_addLines_18 (by decide) (fun c5 => ?_) (fun c5 => ?_)
    · have h := (if_pos c5).symm.trans h
      refine V.iinc (ls' := [some (LI v0), some (LR v1), none, some (LI v3), some (LI (v4 + (1 : Int32)))]) dX3_addLines_38 rfl ki_1 (by decide) rfl rfl ?_
      refine V.goto (tgt := 5) dX3_addLines_41 (by decide) ?_
      refine V.weak [true, true, false, true, true] ?_
      exact hk5 h
    · have h := (if_neg c5).symm.trans h
      refine V.iload_n dX3_addLines_21 rfl rfl ?_
      refine V.aload_n dX3_addLines_22 rfl rfl ?_
      obtain ⟨x6, h7, h⟩ := bnd h
      refine V.alen (ln6_l h7) (ln6_t h7) dX3_addLines_23 ?_
      obtain ⟨p8, h9, h⟩ := bnd h
      have w10 := w_X10_isIn (g := g) (A := A) h9
      refine V.callSNi (args := [LI v3, LI x6]) (st := []) w10.1 mk_X10_isIn w10.2 ml_RX3_31 sm_X10_isIn rfl (Nat.le_of_ble_eq_true rfl) (by decide) rfl (Nat.le_of_ble_eq_true rfl) dX3_addLines_24 ?_
      refine V.if_eq (tgt := 38) dX3_addLines_27 (by decide) (fun c11 => ?_) (fun c11 => ?_)
      · have h := (if_pos c11).symm.trans h
        refine V.iinc (ls' := [some (LI v0), some (LR v1), none, some (LI v3), some (LI (v4 + (1 : Int32)))]) dX3_addLines_38 rfl ki_1 (by decide) rfl rfl ?_
        refine V.goto (tgt := 5) dX3_addLines_41 (by decide) ?_
        refine V.weak [true, true, false, true, true] ?_
        exact hk5 h
      · have h := (if_neg c11).symm.trans h
        refine V.aload_n dX3_addLines_30 rfl rfl ?_
        refine V.iload_n dX3_addLines_31 rfl rfl ?_
        refine V.iload dX3_addLines_32 rfl ?_
        obtain ⟨A12, h13, h⟩ := bnd h
        refine V.iast h13 dX3_addLines_34 ?_
        refine V.iinc (ls' := [some (LI v0), some (LR v1), none, some (LI (v3 + (1 : Int32))), some (LI v4)]) dX3_addLines_35 rfl ki_1 (by decide) rfl rfl ?_
        refine V.iinc (ls' := [some (LI v0), some (LR v1), none, some (LI (v3 + (1 : Int32))), some (LI (v4 + (1 : Int32)))]) dX3_addLines_38 rfl ki_1 (by decide) rfl rfl ?_
        refine V.goto (tgt := 5) dX3_addLines_41 (by decide) ?_
        refine V.weak [true, true, false, true, true] ?_
        exact hk5 h
def l_X3_addLines_5 (N : Nat) : Nat → LH → Int32 → Option Nat → Int32 → Int32 → Option (Int32 × LH)
  | 0, _, _, _, _, _ => none
  | n + 1, A, v0, v1, v3, v4 => b_X3_addLines_5 N (l_X3_addLines_5 N n) A v0 v1 v3 v4
theorem wl_X3_addLines_5 {g : GG} {n0 z0 : Nat} (N : Nat) : ∀ (n : Nat) {A : LH} {v0 : Int32} {v1 : Option Nat} {v3 : Int32} {v4 : Int32} {p : Int32 × LH}, l_X3_addLines_5 N n A v0 v1 v3 v4 = some p → V g m_X3_addLines 1 n0 z0 (some (LI p.1)) p.2 A 5 [some (LI v0), some (LR v1), none, some (LI v3), some (LI v4)] []
  | 0, _, _, _, _, _, _, h => nomatch h
  | n + 1, _, _, _, _, _, _, h => wb_X3_addLines_5 N (wl_X3_addLines_5 N n) h
def b_X3_addLines (N : Nat) (A : LH) (v0 : Int32) (v1 : Option Nat) (v2 : Int32) : Option (Int32 × LH) :=
  l_X3_addLines_5 N N A v0 v1 v2 (0 : Int32)
set_option maxRecDepth 4000 in
theorem wb_X3_addLines {g : GG} {n0 z0 : Nat} (N : Nat) {A : LH} {v0 : Int32} {v1 : Option Nat} {v2 : Int32} {p : Int32 × LH} (h : b_X3_addLines N A v0 v1 v2 = some p) : V g m_X3_addLines 1 n0 z0 (some (LI p.1)) p.2 A 0 [some (LI v0), some (LR v1), some (LI v2)] [] := by
  unfold b_X3_addLines at h
  refine V.iload_n dX3_addLines_0 rfl rfl ?_
  refine V.istore_n (ls' := [some (LI v0), some (LR v1), some (LI v2), some (LI v2)]) dX3_addLines_1 rfl (by decide) rfl rfl ?_
  refine V.iconst dX3_addLines_2 ki_0 ?_
  refine V.istore (ls' := [some (LI v0), some (LR v1), some (LI v2), some (LI v2), some (LI (0 : Int32))]) dX3_addLines_3 (by decide) rfl rfl ?_
  refine V.weak [true, true, false, true, true] ?_
  exact wl_X3_addLines_5 N N h
def f_X3_addLines (N : Nat) (A : LH) (v0 : Int32) (v1 : Option Nat) (v2 : Int32) : Option (Int32 × LH) := b_X3_addLines N A v0 v1 v2
theorem w_X3_addLines {g : GG} (N : Nat) {A : LH} {v0 : Int32} {v1 : Option Nat} {v2 : Int32} {p : Int32 × LH} (h : f_X3_addLines N A v0 v1 v2 = some p) : Ct g m_X3_addLines 1 [LI v0, LR v1, LI v2] A (some (LI p.1)) p.2 := by
  unfold f_X3_addLines at h
  exact ⟨wb_X3_addLines N h, rfl⟩
def b_X3_orderOf_69 (N : Nat) (A : LH) (v1 : Int32) (v4 : Option Nat) (s0 : Int32) : Option (Option Nat × LH) :=
  (f_X3_addLines N A s0 v4 (0 : Int32)).bind fun p6 => (f_X3_addLines N p6.2 (v1 &&& (s0 ^^^ (-1 : Int32))) v4 p6.1).bind fun p9 => some (v4, p9.2)
set_option maxRecDepth 4000 in
theorem wb_X3_orderOf_69 {g : GG} {n0 z0 : Nat} (N : Nat) {A : LH} {v1 : Int32} {v4 : Option Nat} {s0 : Int32} {p : Option Nat × LH} (h : b_X3_orderOf_69 N A v1 v4 s0 = some p) : V g m_X3_orderOf 2 n0 z0 (some (LR p.1)) p.2 A 69 [none, some (LI v1), none, none, some (LR v4)] [LI s0] := by
  unfold b_X3_orderOf_69 at h
  refine V.istore (ls' := [none, some (LI v1), none, none, some (LR v4), some (LI s0)]) dX3_orderOf_69 (by decide) rfl rfl ?_
  refine V.iload_n dX3_orderOf_71 rfl rfl ?_
  refine V.iload dX3_orderOf_72 rfl ?_
  refine V.iconst dX3_orderOf_74 ki_m1 ?_
  refine V.ixor dX3_orderOf_75 ?_
  refine V.iand dX3_orderOf_76 ?_
  refine V.aload dX3_orderOf_77 rfl ?_
  refine V.iload dX3_orderOf_79 rfl ?_
  refine V.aload dX3_orderOf_81 rfl ?_
  refine V.iconst dX3_orderOf_83 ki_0 ?_
  obtain ⟨p6, h7, h⟩ := bnd h
  have w8 := w_X3_addLines (g := g) N h7
  refine V.callSi (args := [LI s0, LR v4, LI (0 : Int32)]) (st := [LR v4, LI (v1 &&& (s0 ^^^ (-1 : Int32)))]) w8.1 mk_X3_addLines w8.2 ml_RX3_59 sm_X3_addLines rfl (Nat.le_of_ble_eq_true rfl) (by decide) rfl (Nat.le_of_ble_eq_true rfl) dX3_orderOf_84 ?_
  obtain ⟨p9, h10, h⟩ := bnd h
  have w11 := w_X3_addLines (g := g) N h10
  refine V.callSi (args := [LI (v1 &&& (s0 ^^^ (-1 : Int32))), LR v4, LI p6.1]) (st := []) w11.1 mk_X3_addLines w11.2 ml_RX3_59 sm_X3_addLines rfl (Nat.le_of_ble_eq_true rfl) (by decide) rfl (Nat.le_of_ble_eq_true rfl) dX3_orderOf_87 ?_
  refine V.pop dX3_orderOf_90 rfl ?_
  refine V.aload dX3_orderOf_91 rfl ?_
  obtain rfl := Option.some.inj h
  exact V.areturn dX3_orderOf_93
def b_X3_orderOf_17 (N : Nat) (k17 : LH → Option Nat → Int32 → Option (Option Nat × LH)) (A : LH) (v4 : Option Nat) (v5 : Int32) : Option (Option Nat × LH) :=
  (ln6 A v4).bind fun x12 => if x12 ≤ v5 then some (v4, A) else (ln6 A v4).bind fun x15 => (sI A v4 0 v5 ((x15 - (1 : Int32)) - v5)).bind fun A17 => k17 A17 v4 (v5 + (1 : Int32))
set_option maxRecDepth 4000 in
theorem wb_X3_orderOf_17 {g : GG} {n0 z0 : Nat} (N : Nat) {k17 : LH → Option Nat → Int32 → Option (Option Nat × LH)} {A : LH} {v4 : Option Nat} {v5 : Int32} {p : Option Nat × LH} (hk17 : ∀ {A : LH} {v4 : Option Nat} {v5 : Int32} {p : Option Nat × LH}, k17 A v4 v5 = some p → V g m_X3_orderOf 2 n0 z0 (some (LR p.1)) p.2 A 17 [none, none, none, none, some (LR v4), some (LI v5)] []) (h : b_X3_orderOf_17 N k17 A v4 v5 = some p) : V g m_X3_orderOf 2 n0 z0 (some (LR p.1)) p.2 A 17 [none, none, none, none, some (LR v4), some (LI v5)] [] := by
  unfold b_X3_orderOf_17 at h
  refine V.iload dX3_orderOf_17 rfl ?_
  refine V.aload dX3_orderOf_19 rfl ?_
  obtain ⟨x12, h13, h⟩ := bnd h
  refine V.alen (ln6_l h13) (ln6_t h13) dX3_orderOf_21 ?_
  refine V.icmp_ge (tgt := 44) dX3_orderOf_22 (by decide) (fun c14 => ?_) (fun c14 => ?_)
  · have h := (if_pos c14).symm.trans h
    refine V.aload dX3_orderOf_44 rfl ?_
    obtain rfl := Option.some.inj h
    exact V.areturn dX3_orderOf_46
  · have h := (if_neg c14).symm.trans h
    refine V.aload dX3_orderOf_25 rfl ?_
    refine V.iload dX3_orderOf_27 rfl ?_
    refine V.aload dX3_orderOf_29 rfl ?_
    obtain ⟨x15, h16, h⟩ := bnd h
    refine V.alen (ln6_l h16) (ln6_t h16) dX3_orderOf_31 ?_
    refine V.iconst dX3_orderOf_32 ki_1 ?_
    refine V.isub dX3_orderOf_33 ?_
    refine V.iload dX3_orderOf_34 rfl ?_
    refine V.isub dX3_orderOf_36 ?_
    obtain ⟨A17, h18, h⟩ := bnd h
    refine V.iast h18 dX3_orderOf_37 ?_
    refine V.iinc (ls' := [none, none, none, none, some (LR v4), some (LI (v5 + (1 : Int32)))]) dX3_orderOf_38 rfl ki_1 (by decide) rfl rfl ?_
    refine V.goto (tgt := 17) dX3_orderOf_41 (by decide) ?_
    refine V.weak [false, false, false, false, true, true] ?_
    exact hk17 h
def l_X3_orderOf_17 (N : Nat) : Nat → LH → Option Nat → Int32 → Option (Option Nat × LH)
  | 0, _, _, _ => none
  | n + 1, A, v4, v5 => b_X3_orderOf_17 N (l_X3_orderOf_17 N n) A v4 v5
theorem wl_X3_orderOf_17 {g : GG} {n0 z0 : Nat} (N : Nat) : ∀ (n : Nat) {A : LH} {v4 : Option Nat} {v5 : Int32} {p : Option Nat × LH}, l_X3_orderOf_17 N n A v4 v5 = some p → V g m_X3_orderOf 2 n0 z0 (some (LR p.1)) p.2 A 17 [none, none, none, none, some (LR v4), some (LI v5)] []
  | 0, _, _, _, _, h => nomatch h
  | n + 1, _, _, _, _, h => wb_X3_orderOf_17 N (wl_X3_orderOf_17 N n) h
def b_X3_orderOf (N : Nat) (A : LH) (v0 : Int32) (v1 : Int32) (v2 : Int32) (v3 : Int32) : Option (Option Nat × LH) :=
  (nI_ A 0 (mmx (0 : Int32) v3)).bind fun A1 => if v0 = (1 : Int32) then l_X3_orderOf_17 N N A1 (some (8 + hn A)) (0 : Int32) else if v0 = 0 then b_X3_orderOf_69 N A1 v1 (some (8 + hn A)) v1 else if v0 = (3 : Int32) then b_X3_orderOf_69 N A1 v1 (some (8 + hn A)) v2 else b_X3_orderOf_69 N A1 v1 (some (8 + hn A)) (v1 &&& (v2 ^^^ (-1 : Int32)))
set_option maxRecDepth 4000 in
theorem wb_X3_orderOf {g : GG} {n0 z0 : Nat} (N : Nat) {A : LH} {v0 : Int32} {v1 : Int32} {v2 : Int32} {v3 : Int32} {p : Option Nat × LH} (h : b_X3_orderOf N A v0 v1 v2 v3 = some p) : V g m_X3_orderOf 2 n0 z0 (some (LR p.1)) p.2 A 0 [some (LI v0), some (LI v1), some (LI v2), some (LI v3)] [] := by
  unfold b_X3_orderOf at h
  refine V.iconst dX3_orderOf_0 ki_0 ?_
  refine V.iload_n dX3_orderOf_1 rfl rfl ?_
  refine V.mmx ml_RX3_41 (by decide) (Nat.le_of_ble_eq_true rfl) dX3_orderOf_2 ?_
  obtain ⟨A1, h2, h⟩ := bnd h
  refine V.newa (ty := .int) h2 rfl rfl rfl (fun _ z => z) (by decide) ac_0 dX3_orderOf_5 ?_
  refine V.astore (ls' := [some (LI v0), some (LI v1), some (LI v2), some (LI v3), some (LR (some (8 + hn A)))]) dX3_orderOf_7 (by decide) rfl rfl ?_
  refine V.iload_n dX3_orderOf_9 rfl rfl ?_
  refine V.iconst dX3_orderOf_10 ki_1 ?_
  refine V.icmp_ne (tgt := 47) dX3_orderOf_11 (by decide) (fun c3 => ?_) (fun c3 => ?_)
  · have h := (if_neg c3).symm.trans h
    refine V.iload_n dX3_orderOf_47 rfl rfl ?_
    refine V.if_ne (tgt := 55) dX3_orderOf_48 (by decide) (fun c4 => ?_) (fun c4 => ?_)
    · have h := (if_neg c4).symm.trans h
      refine V.iload_n dX3_orderOf_55 rfl rfl ?_
      refine V.iconst dX3_orderOf_56 ki_3 ?_
      refine V.icmp_ne (tgt := 64) dX3_orderOf_57 (by decide) (fun c5 => ?_) (fun c5 => ?_)
      · have h := (if_neg c5).symm.trans h
        refine V.iload_n dX3_orderOf_64 rfl rfl ?_
        refine V.iload_n dX3_orderOf_65 rfl rfl ?_
        refine V.iconst dX3_orderOf_66 ki_m1 ?_
        refine V.ixor dX3_orderOf_67 ?_
        refine V.iand dX3_orderOf_68 ?_
        refine V.weak [false, true, false, false, true] ?_
        exact wb_X3_orderOf_69 N h
      · have h := (if_pos c5).symm.trans h
        refine V.iload_n dX3_orderOf_60 rfl rfl ?_
        refine V.goto (tgt := 69) dX3_orderOf_61 (by decide) ?_
        refine V.weak [false, true, false, false, true] ?_
        exact wb_X3_orderOf_69 N h
    · have h := (if_pos c4).symm.trans h
      refine V.iload_n dX3_orderOf_51 rfl rfl ?_
      refine V.goto (tgt := 69) dX3_orderOf_52 (by decide) ?_
      refine V.weak [false, true, false, false, true] ?_
      exact wb_X3_orderOf_69 N h
  · have h := (if_pos c3).symm.trans h
    refine V.iconst dX3_orderOf_14 ki_0 ?_
    refine V.istore (ls' := [some (LI v0), some (LI v1), some (LI v2), some (LI v3), some (LR (some (8 + hn A))), some (LI (0 : Int32))]) dX3_orderOf_15 (by decide) rfl rfl ?_
    refine V.weak [false, false, false, false, true, true] ?_
    exact wl_X3_orderOf_17 N N h
def f_X3_orderOf (N : Nat) (A : LH) (v0 : Int32) (v1 : Int32) (v2 : Int32) (v3 : Int32) : Option (Option Nat × LH) := b_X3_orderOf N A v0 v1 v2 v3
theorem w_X3_orderOf {g : GG} (N : Nat) {A : LH} {v0 : Int32} {v1 : Int32} {v2 : Int32} {v3 : Int32} {p : Option Nat × LH} (h : f_X3_orderOf N A v0 v1 v2 v3 = some p) : Ct g m_X3_orderOf 2 [LI v0, LI v1, LI v2, LI v3] A (some (LR p.1)) p.2 := by
  unfold f_X3_orderOf at h
  exact ⟨wb_X3_orderOf N h, (Or.inr ⟨_, rfl⟩)⟩
def b_X3_init (N : Nat) (A : LH) (v0 : Option Nat) (v1 : Int32) (v2 : Option Nat) : Option (LH) :=
  (pF A v0 3 0 (LI v1)).bind fun A1 => (pF A1 v0 3 1 (LR v2)).bind fun A3 => (ln6 A3 v2).bind fun x5 => (f_X3_letsOf N A3 v2).bind fun p7 => (ln6 A3 v2).bind fun x10 => (f_X3_orderOf N A3 v1 (((1 : Int32) <<< (x5 &&& 31)) - (1 : Int32)) p7 x10).bind fun p12 => (pF p12.2 v0 3 2 (LR p12.1)).bind fun A15 => some A15
set_option maxRecDepth 4000 in
theorem wb_X3_init {g : GG} {n0 z0 : Nat} (N : Nat) {A : LH} {v0 : Option Nat} {v1 : Int32} {v2 : Option Nat} {p : LH} (ho : isO A v0 3 = true) (h : b_X3_init N A v0 v1 v2 = some p) : V g m_X3_init 3 n0 z0 none p A 0 [some (LR v0), some (LI v1), some (LR v2)] [] := by
  unfold b_X3_init at h
  refine V.aload_n dX3_init_0 rfl rfl ?_
  refine V.objI ho ml_RX3_3 im_obj co_obj (by decide) (Nat.le_of_ble_eq_true rfl) dX3_init_1 ?_
  refine V.aload_n dX3_init_4 rfl rfl ?_
  refine V.iload_n dX3_init_5 rfl rfl ?_
  obtain ⟨A1, h2, h⟩ := bnd h
  refine V.putFF h2 rfl rfl rfl rfl rfl CF3 (Nat.le_of_ble_eq_true rfl) fl_RX3_9 dX3_init_6 ?_
  refine V.aload_n dX3_init_9 rfl rfl ?_
  refine V.aload_n dX3_init_10 rfl rfl ?_
  obtain ⟨A3, h4, h⟩ := bnd h
  refine V.putFF h4 (nrR _ rfl) (ftR _ rfl) rfl rfl rfl CF3 (Nat.le_of_ble_eq_true rfl) fl_RX3_15 dX3_init_11 ?_
  refine V.aload_n dX3_init_14 rfl rfl ?_
  refine V.iload_n dX3_init_15 rfl rfl ?_
  refine V.iconst dX3_init_16 ki_1 ?_
  refine V.aload_n dX3_init_17 rfl rfl ?_
  obtain ⟨x5, h6, h⟩ := bnd h
  refine V.alen (ln6_l h6) (ln6_t h6) dX3_init_18 ?_
  refine V.ishl dX3_init_19 ?_
  refine V.iconst dX3_init_20 ki_1 ?_
  refine V.isub dX3_init_21 ?_
  refine V.aload_n dX3_init_22 rfl rfl ?_
  obtain ⟨p7, h8, h⟩ := bnd h
  have w9 := w_X3_letsOf (g := g) N h8
  refine V.callSi (args := [LR v2]) (st := [LI (((1 : Int32) <<< (x5 &&& 31)) - (1 : Int32)), LI v1, LR v0]) w9.1 mk_X3_letsOf w9.2 ml_RX3_19 sm_X3_letsOf rfl (Nat.le_of_ble_eq_true rfl) (by decide) rfl (Nat.le_of_ble_eq_true rfl) dX3_init_23 ?_
  refine V.aload_n dX3_init_26 rfl rfl ?_
  obtain ⟨x10, h11, h⟩ := bnd h
  refine V.alen (ln6_l h11) (ln6_t h11) dX3_init_27 ?_
  obtain ⟨p12, h13, h⟩ := bnd h
  have w14 := w_X3_orderOf (g := g) N h13
  refine V.callSr (args := [LI v1, LI (((1 : Int32) <<< (x5 &&& 31)) - (1 : Int32)), LI p7, LI x10]) (st := [LR v0]) w14.1 mk_X3_orderOf w14.2 ml_RX3_23 sm_X3_orderOf rfl (Nat.le_of_ble_eq_true rfl) (by decide) rfl (Nat.le_of_ble_eq_true rfl) dX3_init_28 ?_
  obtain ⟨A15, h16, h⟩ := bnd h
  refine V.putFF h16 (nrR _ rfl) (ftR _ rfl) rfl rfl rfl CF3 (Nat.le_of_ble_eq_true rfl) fl_RX3_27 dX3_init_31 ?_
  obtain rfl := Option.some.inj h
  exact V.return_ dX3_init_34
def f_X3_init (N : Nat) (A : LH) (v0 : Option Nat) (v1 : Int32) (v2 : Option Nat) : Option (LH) := if isO A v0 3 = true then b_X3_init N A v0 v1 v2 else none
theorem w_X3_init {g : GG} (N : Nat) {A : LH} {v0 : Option Nat} {v1 : Int32} {v2 : Option Nat} {p : LH} (h : f_X3_init N A v0 v1 v2 = some p) : Ct g m_X3_init 3 [LR v0, LI v1, LR v2] A none p := by
  unfold f_X3_init at h
  obtain ⟨ho, h⟩ := ifN h
  exact ⟨wb_X3_init N ho h, trivial⟩
theorem oo_X3_init {N : Nat} {A : LH} {v0 : Option Nat} {v1 : Int32} {v2 : Option Nat} {p : LH} (h : f_X3_init N A v0 v1 v2 = some p) : isO A v0 3 = true := by unfold f_X3_init at h; exact (ifN h).1
def b_X2_read_67 (N : Nat) (A : LH) (v0 : Option Nat) (v1 : Int32) : Option (Option Nat × LH) :=
  (gI A v0 2 5).bind fun x21 => if x21 = 0 then (f_X2_linesRead N (al A (.inr (3, [LI 0, LR none, LR none])) 3) v0).bind fun p24 => (f_X3_init N p24.2 (some (8 + hn A)) v1 p24.1).bind fun p27 => some ((some (8 + hn A)), p27) else some (none, A)
set_option maxRecDepth 4000 in
theorem wb_X2_read_67 {g : GG} {n0 z0 : Nat} (N : Nat) {A : LH} {v0 : Option Nat} {v1 : Int32} {p : Option Nat × LH} (h : b_X2_read_67 N A v0 v1 = some p) : V g m_X2_read 34 n0 z0 (some (LR p.1)) p.2 A 67 [some (LR v0), some (LI v1)] [] := by
  unfold b_X2_read_67 at h
  refine V.aload_n dX2_read_67 rfl rfl ?_
  obtain ⟨x21, h22, h⟩ := bnd h
  refine V.getF (gI_F h22) CF2 (Nat.le_of_ble_eq_true rfl) fl_RX2_37 dX2_read_68 ?_
  refine V.if_ne (tgt := 89) dX2_read_71 (by decide) (fun c23 => ?_) (fun c23 => ?_)
  · have h := (if_neg c23).symm.trans h
    refine V.null dX2_read_89 ?_
    obtain rfl := Option.some.inj h
    exact V.areturn dX2_read_90
  · have h := (if_pos c23).symm.trans h
    refine V.new CF3 okT3 cl_RX2_63 in_3 ii_3 (fs := [LI 0, LR none, LR none]) rfl dX2_read_74 ?_
    refine V.dup dX2_read_77 rfl ?_
    refine V.iload_n dX2_read_78 rfl rfl ?_
    refine V.aload_n dX2_read_79 rfl rfl ?_
    obtain ⟨p24, h25, h⟩ := bnd h
    have w26 := w_X2_linesRead (g := g) N h25
    refine V.callVr (args := []) (st := [LI v1, LR (some (8 + hn A)), LR (some (8 + hn A))]) w26.1 (oo_X2_linesRead h25) mk_X2_linesRead w26.2 vc_2 ml_RX2_65 im_X2_linesRead se_X2_linesRead rfl (Nat.le_of_ble_eq_true rfl) (by decide) rfl (Nat.le_of_ble_eq_true rfl) dX2_read_80 ?_
    obtain ⟨p27, h28, h⟩ := bnd h
    have w29 := w_X3_init (g := g) N h28
    refine V.callI (args := [LI v1, LR p24.1]) (st := [LR (some (8 + hn A))]) w29.1 (oo_X3_init h28) mk_X3_init rfl ml_RX2_69 im_X3_init rfl rfl (Nat.le_of_ble_eq_true rfl) (by decide) rfl (Nat.le_of_ble_eq_true rfl) dX2_read_83 ?_
    refine V.goto (tgt := 90) dX2_read_86 (by decide) ?_
    obtain rfl := Option.some.inj h
    exact V.areturn dX2_read_90
def b_X2_read_53 (N : Nat) (A : LH) (v0 : Option Nat) (v1 : Int32) : Option (Option Nat × LH) :=
  (gR A v0 2 0).bind fun x16 => (gI A x16 7 6).bind fun x18 => if x18 = 0 then b_X2_read_67 N A v0 v1 else (f_X2_refuse A v0).bind fun p30 => b_X2_read_67 N p30 v0 v1
set_option maxRecDepth 4000 in
theorem wb_X2_read_53 {g : GG} {n0 z0 : Nat} (N : Nat) {A : LH} {v0 : Option Nat} {v1 : Int32} {p : Option Nat × LH} (h : b_X2_read_53 N A v0 v1 = some p) : V g m_X2_read 34 n0 z0 (some (LR p.1)) p.2 A 53 [some (LR v0), some (LI v1)] [] := by
  unfold b_X2_read_53 at h
  refine V.aload_n dX2_read_53 rfl rfl ?_
  obtain ⟨x16, h17, h⟩ := bnd h
  refine V.getF (gR_F h17) CF2 (Nat.le_of_ble_eq_true rfl) fl_RX2_14 dX2_read_54 ?_
  obtain ⟨x18, h19, h⟩ := bnd h
  refine V.getFN (gI_F h19) CF7 (Nat.le_of_ble_eq_true rfl) fl_RX2_57 dX2_read_57 ?_
  refine V.if_eq (tgt := 67) dX2_read_60 (by decide) (fun c20 => ?_) (fun c20 => ?_)
  · have h := (if_pos c20).symm.trans h
    refine V.weak [true, true] ?_
    exact wb_X2_read_67 N h
  · have h := (if_neg c20).symm.trans h
    refine V.aload_n dX2_read_63 rfl rfl ?_
    obtain ⟨p30, h31, h⟩ := bnd h
    have w32 := w_X2_refuse (g := g) h31
    refine V.callVv (args := []) (st := []) w32.1 (oo_X2_refuse h31) mk_X2_refuse w32.2 vc_2 ml_RX2_60 im_X2_refuse se_X2_refuse rfl (Nat.le_of_ble_eq_true rfl) (by decide) rfl (Nat.le_of_ble_eq_true rfl) dX2_read_64 ?_
    refine V.weak [true, true] ?_
    exact wb_X2_read_67 N h
def b_X2_read_29 (N : Nat) (k29 : LH → Option Nat → Int32 → Int32 → Option (Option Nat × LH)) (A : LH) (v0 : Option Nat) (v1 : Int32) (v2 : Int32) : Option (Option Nat × LH) :=
  if (600 : Int32) ≤ v2 then b_X2_read_53 N A v0 v1 else (f_X2_startsLine A v0).bind fun p33 => if p33 = 0 then b_X2_read_53 N A v0 v1 else (f_X2_readLine N A v0).bind fun p37 => k29 p37 v0 v1 (v2 + (1 : Int32))
set_option maxRecDepth 4000 in
theorem wb_X2_read_29 {g : GG} {n0 z0 : Nat} (N : Nat) {k29 : LH → Option Nat → Int32 → Int32 → Option (Option Nat × LH)} {A : LH} {v0 : Option Nat} {v1 : Int32} {v2 : Int32} {p : Option Nat × LH} (hk29 : ∀ {A : LH} {v0 : Option Nat} {v1 : Int32} {v2 : Int32} {p : Option Nat × LH}, k29 A v0 v1 v2 = some p → V g m_X2_read 34 n0 z0 (some (LR p.1)) p.2 A 29 [some (LR v0), some (LI v1), some (LI v2)] []) (h : b_X2_read_29 N k29 A v0 v1 v2 = some p) : V g m_X2_read 34 n0 z0 (some (LR p.1)) p.2 A 29 [some (LR v0), some (LI v1), some (LI v2)] [] := by
  unfold b_X2_read_29 at h
  refine V.iload_n dX2_read_29 rfl rfl ?_
  refine V.sipush dX2_read_30 ks_600 ?_
  refine V.icmp_ge (tgt := 53) dX2_read_33 (by decide) (fun c15 => ?_) (fun c15 => ?_)
  · have h := (if_pos c15).symm.trans h
    refine V.weak [true, true] ?_
    exact wb_X2_read_53 N h
  · have h := (if_neg c15).symm.trans h
    refine V.aload_n dX2_read_36 rfl rfl ?_
    obtain ⟨p33, h34, h⟩ := bnd h
    have w35 := w_X2_startsLine (g := g) h34
    refine V.callVi (args := []) (st := []) w35.1 (oo_X2_startsLine h34) mk_X2_startsLine w35.2 vc_2 ml_RX2_50 im_X2_startsLine se_X2_startsLine rfl (Nat.le_of_ble_eq_true rfl) (by decide) rfl (Nat.le_of_ble_eq_true rfl) dX2_read_37 ?_
    refine V.if_eq (tgt := 53) dX2_read_40 (by decide) (fun c36 => ?_) (fun c36 => ?_)
    · have h := (if_pos c36).symm.trans h
      refine V.weak [true, true] ?_
      exact wb_X2_read_53 N h
    · have h := (if_neg c36).symm.trans h
      refine V.aload_n dX2_read_43 rfl rfl ?_
      obtain ⟨p37, h38, h⟩ := bnd h
      have w39 := w_X2_readLine (g := g) N h38
      refine V.callVv (args := []) (st := []) w39.1 (oo_X2_readLine h38) mk_X2_readLine w39.2 vc_2 ml_RX2_54 im_X2_readLine se_X2_readLine rfl (Nat.le_of_ble_eq_true rfl) (by decide) rfl (Nat.le_of_ble_eq_true rfl) dX2_read_44 ?_
      refine V.iinc (ls' := [some (LR v0), some (LI v1), some (LI (v2 + (1 : Int32)))]) dX2_read_47 rfl ki_1 (by decide) rfl rfl ?_
      refine V.goto (tgt := 29) dX2_read_50 (by decide) ?_
      refine V.weak [true, true, true] ?_
      exact hk29 h
def l_X2_read_29 (N : Nat) : Nat → LH → Option Nat → Int32 → Int32 → Option (Option Nat × LH)
  | 0, _, _, _, _ => none
  | n + 1, A, v0, v1, v2 => b_X2_read_29 N (l_X2_read_29 N n) A v0 v1 v2
theorem wl_X2_read_29 {g : GG} {n0 z0 : Nat} (N : Nat) : ∀ (n : Nat) {A : LH} {v0 : Option Nat} {v1 : Int32} {v2 : Int32} {p : Option Nat × LH}, l_X2_read_29 N n A v0 v1 v2 = some p → V g m_X2_read 34 n0 z0 (some (LR p.1)) p.2 A 29 [some (LR v0), some (LI v1), some (LI v2)] []
  | 0, _, _, _, _, _, h => nomatch h
  | n + 1, _, _, _, _, _, h => wb_X2_read_29 N (wl_X2_read_29 N n) h
def b_X2_read (N : Nat) (A : LH) (v0 : Option Nat) : Option (Option Nat × LH) :=
  (pF A v0 2 5 (LI (0 : Int32))).bind fun A1 => (pF A1 v0 2 6 (LI (-1 : Int32))).bind fun A3 => (pF A3 v0 2 3 (LI (0 : Int32))).bind fun A5 => (gR A5 v0 2 0).bind fun x7 => (f_X7_takeApart N A5 x7).bind fun p9 => (f_X2_readHow N p9 v0).bind fun p12 => l_X2_read_29 N N p12.2 v0 p12.1 (0 : Int32)
set_option maxRecDepth 4000 in
theorem wb_X2_read {g : GG} {n0 z0 : Nat} (N : Nat) {A : LH} {v0 : Option Nat} {p : Option Nat × LH} (h : b_X2_read N A v0 = some p) : V g m_X2_read 34 n0 z0 (some (LR p.1)) p.2 A 0 [some (LR v0)] [] := by
  unfold b_X2_read at h
  refine V.aload_n dX2_read_0 rfl rfl ?_
  refine V.iconst dX2_read_1 ki_0 ?_
  obtain ⟨A1, h2, h⟩ := bnd h
  refine V.putF h2 rfl rfl rfl CF2 (Nat.le_of_ble_eq_true rfl) fl_RX2_37 dX2_read_2 ?_
  refine V.aload_n dX2_read_5 rfl rfl ?_
  refine V.iconst dX2_read_6 ki_m1 ?_
  obtain ⟨A3, h4, h⟩ := bnd h
  refine V.putF h4 rfl rfl rfl CF2 (Nat.le_of_ble_eq_true rfl) fl_RX2_40 dX2_read_7 ?_
  refine V.aload_n dX2_read_10 rfl rfl ?_
  refine V.iconst dX2_read_11 ki_0 ?_
  obtain ⟨A5, h6, h⟩ := bnd h
  refine V.putF h6 rfl rfl rfl CF2 (Nat.le_of_ble_eq_true rfl) fl_RX2_30 dX2_read_12 ?_
  refine V.aload_n dX2_read_15 rfl rfl ?_
  obtain ⟨x7, h8, h⟩ := bnd h
  refine V.getF (gR_F h8) CF2 (Nat.le_of_ble_eq_true rfl) fl_RX2_14 dX2_read_16 ?_
  obtain ⟨p9, h10, h⟩ := bnd h
  have w11 := w_X7_takeApart (g := g) N h10
  refine V.callVv (args := []) (st := []) w11.1 (oo_X7_takeApart h10) mk_X7_takeApart w11.2 vc_7 ml_RX2_43 im_X7_takeApart se_X7_takeApart rfl (Nat.le_of_ble_eq_true rfl) (by decide) rfl (Nat.le_of_ble_eq_true rfl) dX2_read_19 ?_
  refine V.aload_n dX2_read_22 rfl rfl ?_
  obtain ⟨p12, h13, h⟩ := bnd h
  have w14 := w_X2_readHow (g := g) N h13
  refine V.callVi (args := []) (st := []) w14.1 (oo_X2_readHow h13) mk_X2_readHow w14.2 vc_2 ml_RX2_46 im_X2_readHow se_X2_readHow rfl (Nat.le_of_ble_eq_true rfl) (by decide) rfl (Nat.le_of_ble_eq_true rfl) dX2_read_23 ?_
  refine V.istore_n (ls' := [some (LR v0), some (LI p12.1)]) dX2_read_26 rfl (by decide) rfl rfl ?_
  refine V.iconst dX2_read_27 ki_0 ?_
  refine V.istore_n (ls' := [some (LR v0), some (LI p12.1), some (LI (0 : Int32))]) dX2_read_28 rfl (by decide) rfl rfl ?_
  refine V.weak [true, true, true] ?_
  exact wl_X2_read_29 N N h
def f_X2_read (N : Nat) (A : LH) (v0 : Option Nat) : Option (Option Nat × LH) := if isO A v0 2 = true then b_X2_read N A v0 else none
theorem w_X2_read {g : GG} (N : Nat) {A : LH} {v0 : Option Nat} {p : Option Nat × LH} (h : f_X2_read N A v0 = some p) : Ct g m_X2_read 34 [LR v0] A (some (LR p.1)) p.2 := by
  unfold f_X2_read at h
  obtain ⟨ho, h⟩ := ifN h
  exact ⟨wb_X2_read N h, (Or.inl ⟨_, rfl⟩)⟩
theorem oo_X2_read {N : Nat} {A : LH} {v0 : Option Nat} {p : Option Nat × LH} (h : f_X2_read N A v0 = some p) : isO A v0 2 = true := by unfold f_X2_read at h; exact (ifN h).1
def b_X3_lineAt (A : LH) (v0 : Option Nat) (v1 : Int32) : Option (Option Nat) :=
  (gR A v0 3 1).bind fun x1 => (ln6 A x1).bind fun x3 => (f_X10_isIn v1 x3).bind fun p5 => if p5 = 0 then some none else (gR A v0 3 1).bind fun x9 => (aR A x9 3 v1).bind fun x11 => some x11
set_option maxRecDepth 4000 in
theorem wb_X3_lineAt {g : GG} {n0 z0 : Nat} {A : LH} {v0 : Option Nat} {v1 : Int32} {p : Option Nat} (h : b_X3_lineAt A v0 v1 = some p) : V g m_X3_lineAt 1 n0 z0 (some (LR p)) A A 0 [some (LR v0), some (LI v1)] [] := by
  unfold b_X3_lineAt at h
  refine V.iload_n dX3_lineAt_0 rfl rfl ?_
  refine V.aload_n dX3_lineAt_1 rfl rfl ?_
  obtain ⟨x1, h2, h⟩ := bnd h
  refine V.getF (gR_F h2) CF3 (Nat.le_of_ble_eq_true rfl) fl_RX3_15 dX3_lineAt_2 ?_
  obtain ⟨x3, h4, h⟩ := bnd h
  refine V.alen (ln6_l h4) (ln6_t h4) dX3_lineAt_5 ?_
  obtain ⟨p5, h6, h⟩ := bnd h
  have w7 := w_X10_isIn (g := g) (A := A) h6
  refine V.callSNi (args := [LI v1, LI x3]) (st := []) w7.1 mk_X10_isIn w7.2 ml_RX3_31 sm_X10_isIn rfl (Nat.le_of_ble_eq_true rfl) (by decide) rfl (Nat.le_of_ble_eq_true rfl) dX3_lineAt_6 ?_
  refine V.if_eq (tgt := 21) dX3_lineAt_9 (by decide) (fun c8 => ?_) (fun c8 => ?_)
  · have h := (if_pos c8).symm.trans h
    refine V.null dX3_lineAt_21 ?_
    obtain rfl := Option.some.inj h
    exact V.areturn dX3_lineAt_22
  · have h := (if_neg c8).symm.trans h
    refine V.aload_n dX3_lineAt_12 rfl rfl ?_
    obtain ⟨x9, h10, h⟩ := bnd h
    refine V.getF (gR_F h10) CF3 (Nat.le_of_ble_eq_true rfl) fl_RX3_15 dX3_lineAt_13 ?_
    refine V.iload_n dX3_lineAt_16 rfl rfl ?_
    obtain ⟨x11, h12, h⟩ := bnd h
    refine V.aald h12 rfl dX3_lineAt_17 ?_
    refine V.goto (tgt := 22) dX3_lineAt_18 (by decide) ?_
    obtain rfl := Option.some.inj h
    exact V.areturn dX3_lineAt_22
def f_X3_lineAt (A : LH) (v0 : Option Nat) (v1 : Int32) : Option (Option Nat) := if isO A v0 3 = true then b_X3_lineAt A v0 v1 else none
theorem w_X3_lineAt {g : GG} {A : LH} {v0 : Option Nat} {v1 : Int32} {p : Option Nat} (h : f_X3_lineAt A v0 v1 = some p) : Ct g m_X3_lineAt 1 [LR v0, LI v1] A (some (LR p)) A := by
  unfold f_X3_lineAt at h
  obtain ⟨ho, h⟩ := ifN h
  exact ⟨wb_X3_lineAt h, (Or.inl ⟨_, rfl⟩)⟩
theorem oo_X3_lineAt {A : LH} {v0 : Option Nat} {v1 : Int32} {p : Option Nat} (h : f_X3_lineAt A v0 v1 = some p) : isO A v0 3 = true := by unfold f_X3_lineAt at h; exact (ifN h).1
def b_X3_letSet (N : Nat) (A : LH) (v0 : Option Nat) : Option (Int32) :=
  (gR A v0 3 1).bind fun x1 => (f_X3_letsOf N A x1).bind fun p3 => some p3
set_option maxRecDepth 4000 in
theorem wb_X3_letSet {g : GG} {n0 z0 : Nat} (N : Nat) {A : LH} {v0 : Option Nat} {p : Int32} (h : b_X3_letSet N A v0 = some p) : V g m_X3_letSet 1 n0 z0 (some (LI p)) A A 0 [some (LR v0)] [] := by
  unfold b_X3_letSet at h
  refine V.aload_n dX3_letSet_0 rfl rfl ?_
  obtain ⟨x1, h2, h⟩ := bnd h
  refine V.getF (gR_F h2) CF3 (Nat.le_of_ble_eq_true rfl) fl_RX3_15 dX3_letSet_1 ?_
  obtain ⟨p3, h4, h⟩ := bnd h
  have w5 := w_X3_letsOf (g := g) N h4
  refine V.callSi (args := [LR x1]) (st := []) w5.1 mk_X3_letsOf w5.2 ml_RX3_19 sm_X3_letsOf rfl (Nat.le_of_ble_eq_true rfl) (by decide) rfl (Nat.le_of_ble_eq_true rfl) dX3_letSet_4 ?_
  obtain rfl := Option.some.inj h
  exact V.ireturn dX3_letSet_7
def f_X3_letSet (N : Nat) (A : LH) (v0 : Option Nat) : Option (Int32) := if isO A v0 3 = true then b_X3_letSet N A v0 else none
theorem w_X3_letSet {g : GG} (N : Nat) {A : LH} {v0 : Option Nat} {p : Int32} (h : f_X3_letSet N A v0 = some p) : Ct g m_X3_letSet 1 [LR v0] A (some (LI p)) A := by
  unfold f_X3_letSet at h
  obtain ⟨ho, h⟩ := ifN h
  exact ⟨wb_X3_letSet N h, rfl⟩
theorem oo_X3_letSet {N : Nat} {A : LH} {v0 : Option Nat} {p : Int32} (h : f_X3_letSet N A v0 = some p) : isO A v0 3 = true := by unfold f_X3_letSet at h; exact (ifN h).1
def b_X3_changed_102 (N : Nat) (A : LH) (v0 : Option Nat) (v3 : Option Nat) : Option (Option Nat × LH) :=
  (gI (al A (.inr (3, [LI 0, LR none, LR none])) 3) v0 3 0).bind fun x15 => (f_X3_init N (al A (.inr (3, [LI 0, LR none, LR none])) 3) (some (8 + hn A)) x15 v3).bind fun p17 => some ((some (8 + hn A)), p17)
set_option maxRecDepth 4000 in
theorem wb_X3_changed_102 {g : GG} {n0 z0 : Nat} (N : Nat) {A : LH} {v0 : Option Nat} {v3 : Option Nat} {p : Option Nat × LH} (h : b_X3_changed_102 N A v0 v3 = some p) : V g m_X3_changed 4 n0 z0 (some (LR p.1)) p.2 A 102 [some (LR v0), none, none, some (LR v3)] [] := by
  unfold b_X3_changed_102 at h
  refine V.new CF3 okT3 cl_RX3_10 in_3 ii_3 (fs := [LI 0, LR none, LR none]) rfl dX3_changed_102 ?_
  refine V.dup dX3_changed_105 rfl ?_
  refine V.aload_n dX3_changed_106 rfl rfl ?_
  obtain ⟨x15, h16, h⟩ := bnd h
  refine V.getF (gI_F h16) CF3 (Nat.le_of_ble_eq_true rfl) fl_RX3_9 dX3_changed_107 ?_
  refine V.aload_n dX3_changed_110 rfl rfl ?_
  obtain ⟨p17, h18, h⟩ := bnd h
  have w19 := w_X3_init (g := g) N h18
  refine V.callI (args := [LI x15, LR v3]) (st := [LR (some (8 + hn A))]) w19.1 (oo_X3_init h18) mk_X3_init rfl ml_RX3_56 im_X3_init rfl rfl (Nat.le_of_ble_eq_true rfl) (by decide) rfl (Nat.le_of_ble_eq_true rfl) dX3_changed_111 ?_
  obtain rfl := Option.some.inj h
  exact V.areturn dX3_changed_114
def b_X3_changed_92 (N : Nat) (k24 : LH → Option Nat → Int32 → Int32 → Option Nat → Int32 → Int32 → Option (Option Nat × LH)) (A : LH) (v0 : Option Nat) (v1 : Int32) (v2 : Int32) (v3 : Option Nat) (v4 : Int32) (v5 : Int32) (s0 : Option Nat) (s1 : Int32) (s2 : Option Nat) : Option (Option Nat × LH) :=
  (sR A s2 3 0 s1 s0).bind fun A40 => k24 A40 v0 v1 v2 v3 (v4 + (1 : Int32)) (v5 + (1 : Int32))
set_option maxRecDepth 4000 in
theorem wb_X3_changed_92 {g : GG} {n0 z0 : Nat} (N : Nat) {k24 : LH → Option Nat → Int32 → Int32 → Option Nat → Int32 → Int32 → Option (Option Nat × LH)} {A : LH} {v0 : Option Nat} {v1 : Int32} {v2 : Int32} {v3 : Option Nat} {v4 : Int32} {v5 : Int32} {s0 : Option Nat} {s1 : Int32} {s2 : Option Nat} {p : Option Nat × LH} (hk24 : ∀ {A : LH} {v0 : Option Nat} {v1 : Int32} {v2 : Int32} {v3 : Option Nat} {v4 : Int32} {v5 : Int32} {p : Option Nat × LH}, k24 A v0 v1 v2 v3 v4 v5 = some p → V g m_X3_changed 4 n0 z0 (some (LR p.1)) p.2 A 24 [some (LR v0), some (LI v1), some (LI v2), some (LR v3), some (LI v4), some (LI v5)] []) (h : b_X3_changed_92 N k24 A v0 v1 v2 v3 v4 v5 s0 s1 s2 = some p) : V g m_X3_changed 4 n0 z0 (some (LR p.1)) p.2 A 92 [some (LR v0), some (LI v1), some (LI v2), some (LR v3), some (LI v4), some (LI v5)] [LR s0, LI s1, LR s2] := by
  unfold b_X3_changed_92 at h
  obtain ⟨A40, h41, h⟩ := bnd h
  refine V.aast h41 rfl rfl dX3_changed_92 ?_
  refine V.iinc (ls' := [some (LR v0), some (LI v1), some (LI v2), some (LR v3), some (LI (v4 + (1 : Int32))), some (LI v5)]) dX3_changed_93 rfl ki_1 (by decide) rfl rfl ?_
  refine V.iinc (ls' := [some (LR v0), some (LI v1), some (LI v2), some (LR v3), some (LI (v4 + (1 : Int32))), some (LI (v5 + (1 : Int32)))]) dX3_changed_96 rfl ki_1 (by decide) rfl rfl ?_
  refine V.goto (tgt := 24) dX3_changed_99 (by decide) ?_
  refine V.weak [true, true, true, true, true, true] ?_
  exact hk24 h
def b_X3_changed_24 (N : Nat) (k24 : LH → Option Nat → Int32 → Int32 → Option Nat → Int32 → Int32 → Option (Option Nat × LH)) (A : LH) (v0 : Option Nat) (v1 : Int32) (v2 : Int32) (v3 : Option Nat) (v4 : Int32) (v5 : Int32) : Option (Option Nat × LH) :=
  (gR A v0 3 1).bind fun x10 => (ln6 A x10).bind fun x12 => if x12 ≤ v5 then b_X3_changed_102 N A v0 v3 else (ln6 A v3).bind fun x20 => if x20 ≤ v4 then b_X3_changed_102 N A v0 v3 else (f_X10_hasBit v1 v5).bind fun p23 => if p23 = 0 then (gR A v0 3 1).bind fun x27 => (aR A x27 3 v5).bind fun x29 => if x29 = none then k24 A v0 v1 v2 v3 v4 (v5 + (1 : Int32)) else (f_X10_hasBit v2 v5).bind fun p32 => if p32 = 0 then (gR A v0 3 1).bind fun x36 => (aR A x36 3 v5).bind fun x38 => b_X3_changed_92 N k24 A v0 v1 v2 v3 v4 v5 x38 v4 v3 else (gR A v0 3 1).bind fun x42 => (aR A x42 3 v5).bind fun x44 => (f_X0_turned A x44).bind fun p46 => b_X3_changed_92 N k24 p46.2 v0 v1 v2 v3 v4 v5 p46.1 v4 v3 else k24 A v0 v1 v2 v3 v4 (v5 + (1 : Int32))
set_option maxRecDepth 4000 in
theorem wb_X3_changed_24 {g : GG} {n0 z0 : Nat} (N : Nat) {k24 : LH → Option Nat → Int32 → Int32 → Option Nat → Int32 → Int32 → Option (Option Nat × LH)} {A : LH} {v0 : Option Nat} {v1 : Int32} {v2 : Int32} {v3 : Option Nat} {v4 : Int32} {v5 : Int32} {p : Option Nat × LH} (hk24 : ∀ {A : LH} {v0 : Option Nat} {v1 : Int32} {v2 : Int32} {v3 : Option Nat} {v4 : Int32} {v5 : Int32} {p : Option Nat × LH}, k24 A v0 v1 v2 v3 v4 v5 = some p → V g m_X3_changed 4 n0 z0 (some (LR p.1)) p.2 A 24 [some (LR v0), some (LI v1), some (LI v2), some (LR v3), some (LI v4), some (LI v5)] []) (h : b_X3_changed_24 N k24 A v0 v1 v2 v3 v4 v5 = some p) : V g m_X3_changed 4 n0 z0 (some (LR p.1)) p.2 A 24 [some (LR v0), some (LI v1), some (LI v2), some (LR v3), some (LI v4), some (LI v5)] [] := by
  unfold b_X3_changed_24 at h
  refine V.iload dX3_changed_24 rfl ?_
  refine V.aload_n dX3_changed_26 rfl rfl ?_
  obtain ⟨x10, h11, h⟩ := bnd h
  refine V.getF (gR_F h11) CF3 (Nat.le_of_ble_eq_true rfl) fl_RX3_15 dX3_changed_27 ?_
  obtain ⟨x12, h13, h⟩ := bnd h
  refine V.alen (ln6_l h13) (ln6_t h13) dX3_changed_30 ?_
  refine V.icmp_ge (tgt := 102) dX3_changed_31 (by decide) (fun c14 => ?_) (fun c14 => ?_)
  · have h := (if_pos c14).symm.trans h
    refine V.weak [true, false, false, true] ?_
    exact wb_X3_changed_102 N h
  · have h := (if_neg c14).symm.trans h
    refine V.iload dX3_changed_34 rfl ?_
    refine V.aload_n dX3_changed_36 rfl rfl ?_
    obtain ⟨x20, h21, h⟩ := bnd h
    refine V.alen (ln6_l h21) (ln6_t h21) dX3_changed_37 ?_
    refine V.icmp_ge (tgt := 102) dX3_changed_38 (by decide) (fun c22 => ?_) (fun c22 => ?_)
    · have h := (if_pos c22).symm.trans h
      refine V.weak [true, false, false, true] ?_
      exact wb_X3_changed_102 N h
    · have h := (if_neg c22).symm.trans h
      refine V.iload_n dX3_changed_41 rfl rfl ?_
      refine V.iload dX3_changed_42 rfl ?_
      obtain ⟨p23, h24, h⟩ := bnd h
      have w25 := w_X10_hasBit (g := g) (A := A) h24
      refine V.callSNi (args := [LI v1, LI v5]) (st := []) w25.1 mk_X10_hasBit w25.2 ml_RX3_49 sm_X10_hasBit rfl (Nat.le_of_ble_eq_true rfl) (by decide) rfl (Nat.le_of_ble_eq_true rfl) dX3_changed_44 ?_
      refine V.if_ne (tgt := 96) dX3_changed_47 (by decide) (fun c26 => ?_) (fun c26 => ?_)
      · have h := (if_neg c26).symm.trans h
        refine V.iinc (ls' := [some (LR v0), some (LI v1), some (LI v2), some (LR v3), some (LI v4), some (LI (v5 + (1 : Int32)))]) dX3_changed_96 rfl ki_1 (by decide) rfl rfl ?_
        refine V.goto (tgt := 24) dX3_changed_99 (by decide) ?_
        refine V.weak [true, true, true, true, true, true] ?_
        exact hk24 h
      · have h := (if_pos c26).symm.trans h
        refine V.aload_n dX3_changed_50 rfl rfl ?_
        obtain ⟨x27, h28, h⟩ := bnd h
        refine V.getF (gR_F h28) CF3 (Nat.le_of_ble_eq_true rfl) fl_RX3_15 dX3_changed_51 ?_
        refine V.iload dX3_changed_54 rfl ?_
        obtain ⟨x29, h30, h⟩ := bnd h
        refine V.aald h30 rfl dX3_changed_56 ?_
        refine V.ifnull_ (tgt := 96) dX3_changed_57 (by decide) (fun c49 => ?_) (fun c49 => ?_)
        · have h := (if_pos c49).symm.trans h
          refine V.iinc (ls' := [some (LR v0), some (LI v1), some (LI v2), some (LR v3), some (LI v4), some (LI (v5 + (1 : Int32)))]) dX3_changed_96 rfl ki_1 (by decide) rfl rfl ?_
          refine V.goto (tgt := 24) dX3_changed_99 (by decide) ?_
          refine V.weak [true, true, true, true, true, true] ?_
          exact hk24 h
        · have h := (if_neg c49).symm.trans h
          refine V.aload_n dX3_changed_60 rfl rfl ?_
          refine V.iload dX3_changed_61 rfl ?_
          refine V.iload_n dX3_changed_63 rfl rfl ?_
          refine V.iload dX3_changed_64 rfl ?_
          obtain ⟨p32, h33, h⟩ := bnd h
          have w34 := w_X10_hasBit (g := g) (A := A) h33
          refine V.callSNi (args := [LI v2, LI v5]) (st := [LI v4, LR v3]) w34.1 mk_X10_hasBit w34.2 ml_RX3_49 sm_X10_hasBit rfl (Nat.le_of_ble_eq_true rfl) (by decide) rfl (Nat.le_of_ble_eq_true rfl) dX3_changed_66 ?_
          refine V.if_eq (tgt := 85) dX3_changed_69 (by decide) (fun c35 => ?_) (fun c35 => ?_)
          · have h := (if_pos c35).symm.trans h
            refine V.aload_n dX3_changed_85 rfl rfl ?_
            obtain ⟨x36, h37, h⟩ := bnd h
            refine V.getF (gR_F h37) CF3 (Nat.le_of_ble_eq_true rfl) fl_RX3_15 dX3_changed_86 ?_
            refine V.iload dX3_changed_89 rfl ?_
            obtain ⟨x38, h39, h⟩ := bnd h
            refine V.aald h39 rfl dX3_changed_91 ?_
            refine V.weak [true, true, true, true, true, true] ?_
            exact wb_X3_changed_92 N hk24 h
          · have h := (if_neg c35).symm.trans h
            refine V.aload_n dX3_changed_72 rfl rfl ?_
            obtain ⟨x42, h43, h⟩ := bnd h
            refine V.getF (gR_F h43) CF3 (Nat.le_of_ble_eq_true rfl) fl_RX3_15 dX3_changed_73 ?_
            refine V.iload dX3_changed_76 rfl ?_
            obtain ⟨x44, h45, h⟩ := bnd h
            refine V.aald h45 rfl dX3_changed_78 ?_
            obtain ⟨p46, h47, h⟩ := bnd h
            have w48 := w_X0_turned (g := g) h47
            refine V.callVr (args := []) (st := [LI v4, LR v3]) w48.1 (oo_X0_turned h47) mk_X0_turned w48.2 vc_0 ml_RX3_52 im_X0_turned se_X0_turned rfl (Nat.le_of_ble_eq_true rfl) (by decide) rfl (Nat.le_of_ble_eq_true rfl) dX3_changed_79 ?_
            refine V.goto (tgt := 92) dX3_changed_82 (by decide) ?_
            refine V.weak [true, true, true, true, true, true] ?_
            exact wb_X3_changed_92 N hk24 h
def l_X3_changed_24 (N : Nat) : Nat → LH → Option Nat → Int32 → Int32 → Option Nat → Int32 → Int32 → Option (Option Nat × LH)
  | 0, _, _, _, _, _, _, _ => none
  | n + 1, A, v0, v1, v2, v3, v4, v5 => b_X3_changed_24 N (l_X3_changed_24 N n) A v0 v1 v2 v3 v4 v5
theorem wl_X3_changed_24 {g : GG} {n0 z0 : Nat} (N : Nat) : ∀ (n : Nat) {A : LH} {v0 : Option Nat} {v1 : Int32} {v2 : Int32} {v3 : Option Nat} {v4 : Int32} {v5 : Int32} {p : Option Nat × LH}, l_X3_changed_24 N n A v0 v1 v2 v3 v4 v5 = some p → V g m_X3_changed 4 n0 z0 (some (LR p.1)) p.2 A 24 [some (LR v0), some (LI v1), some (LI v2), some (LR v3), some (LI v4), some (LI v5)] []
  | 0, _, _, _, _, _, _, _, _, h => nomatch h
  | n + 1, _, _, _, _, _, _, _, _, h => wb_X3_changed_24 N (wl_X3_changed_24 N n) h
def b_X3_changed (N : Nat) (A : LH) (v0 : Option Nat) (v1 : Int32) (v2 : Int32) : Option (Option Nat × LH) :=
  (gR A v0 3 1).bind fun x1 => (ln6 A x1).bind fun x3 => (f_J6_bitCount_0f7a4 v1).bind fun p5 => (nR_ A 3 (mmx (0 : Int32) (x3 - p5))).bind fun A8 => l_X3_changed_24 N N A8 v0 v1 v2 (some (8 + hn A)) (0 : Int32) (0 : Int32)
set_option maxRecDepth 4000 in
theorem wb_X3_changed {g : GG} {n0 z0 : Nat} (N : Nat) {A : LH} {v0 : Option Nat} {v1 : Int32} {v2 : Int32} {p : Option Nat × LH} (h : b_X3_changed N A v0 v1 v2 = some p) : V g m_X3_changed 4 n0 z0 (some (LR p.1)) p.2 A 0 [some (LR v0), some (LI v1), some (LI v2)] [] := by
  unfold b_X3_changed at h
  refine V.iconst dX3_changed_0 ki_0 ?_
  refine V.aload_n dX3_changed_1 rfl rfl ?_
  obtain ⟨x1, h2, h⟩ := bnd h
  refine V.getF (gR_F h2) CF3 (Nat.le_of_ble_eq_true rfl) fl_RX3_15 dX3_changed_2 ?_
  obtain ⟨x3, h4, h⟩ := bnd h
  refine V.alen (ln6_l h4) (ln6_t h4) dX3_changed_5 ?_
  refine V.iload_n dX3_changed_6 rfl rfl ?_
  obtain ⟨p5, h6, h⟩ := bnd h
  have w7 := w_J6_bitCount_0f7a4 (g := g) (A := A) h6
  refine V.callSi (args := [LI v1]) (st := [LI x3, LI (0 : Int32)]) w7.1 mk_J6_bitCount_0f7a4 w7.2 ml_RX3_35 sm_J6_bitCount_0f7a4 rfl (Nat.le_of_ble_eq_true rfl) (by decide) rfl (Nat.le_of_ble_eq_true rfl) dX3_changed_7 ?_
  refine V.isub dX3_changed_10 ?_
  refine V.mmx ml_RX3_41 (by decide) (Nat.le_of_ble_eq_true rfl) dX3_changed_11 ?_
  obtain ⟨A8, h9, h⟩ := bnd h
  refine V.newq h9 rfl cl_RX3_47 ov_3 dX3_changed_14 ?_
  refine V.astore_n (ls' := [some (LR v0), some (LI v1), some (LI v2), some (LR (some (8 + hn A)))]) dX3_changed_17 rfl (by decide) rfl rfl ?_
  refine V.iconst dX3_changed_18 ki_0 ?_
  refine V.istore (ls' := [some (LR v0), some (LI v1), some (LI v2), some (LR (some (8 + hn A))), some (LI (0 : Int32))]) dX3_changed_19 (by decide) rfl rfl ?_
  refine V.iconst dX3_changed_21 ki_0 ?_
  refine V.istore (ls' := [some (LR v0), some (LI v1), some (LI v2), some (LR (some (8 + hn A))), some (LI (0 : Int32)), some (LI (0 : Int32))]) dX3_changed_22 (by decide) rfl rfl ?_
  refine V.weak [true, true, true, true, true, true] ?_
  exact wl_X3_changed_24 N N h
def f_X3_changed (N : Nat) (A : LH) (v0 : Option Nat) (v1 : Int32) (v2 : Int32) : Option (Option Nat × LH) := if isO A v0 3 = true then b_X3_changed N A v0 v1 v2 else none
theorem w_X3_changed {g : GG} (N : Nat) {A : LH} {v0 : Option Nat} {v1 : Int32} {v2 : Int32} {p : Option Nat × LH} (h : f_X3_changed N A v0 v1 v2 = some p) : Ct g m_X3_changed 4 [LR v0, LI v1, LI v2] A (some (LR p.1)) p.2 := by
  unfold f_X3_changed at h
  obtain ⟨ho, h⟩ := ifN h
  exact ⟨wb_X3_changed N h, (Or.inl ⟨_, rfl⟩)⟩
theorem oo_X3_changed {N : Nat} {A : LH} {v0 : Option Nat} {v1 : Int32} {v2 : Int32} {p : Option Nat × LH} (h : f_X3_changed N A v0 v1 v2 = some p) : isO A v0 3 = true := by unfold f_X3_changed at h; exact (ifN h).1
