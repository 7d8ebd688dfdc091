def b_J6_numberOfLeadingZeros_0f7a4_61 (v0 : Int32) (v1 : Int32) : Option (Int32) :=
  if v0 < (4 : Int32) then some (v1 - (ush v0 (1 : Int32))) else some ((v1 + (-2 : Int32)) - (ush (ush v0 (2 : Int32)) (1 : Int32)))
set_option maxRecDepth 4000 in
theorem wb_J6_numberOfLeadingZeros_0f7a4_61 {g : GG} {n0 z0 : Nat} {A : LH} {v0 : Int32} {v1 : Int32} {p : Int32} (h : b_J6_numberOfLeadingZeros_0f7a4_61 v0 v1 = some p) : V g m_J6_numberOfLeadingZeros_0f7a4 0 n0 z0 (some (LI p)) A A 61 [some (LI v0), some (LI v1)] [] := by
  unfold b_J6_numberOfLeadingZeros_0f7a4_61 at h
  refine V.iload_n dJ6_numberOfLeadingZeros_0f7a4_61 rfl rfl ?_
  refine V.iconst dJ6_numberOfLeadingZeros_0f7a4_62 ki_4 ?_
  refine V.icmp_lt (tgt := 73) dJ6_numberOfLeadingZeros_0f7a4_63 (by decide) (fun c5 => ?_) (fun c5 => ?_)
  · have h := (if_pos c5).symm.trans h
    refine V.iload_n dJ6_numberOfLeadingZeros_0f7a4_73 rfl rfl ?_
    refine V.iload_n dJ6_numberOfLeadingZeros_0f7a4_74 rfl rfl ?_
    refine V.iconst dJ6_numberOfLeadingZeros_0f7a4_75 ki_1 ?_
    refine V.iushr dJ6_numberOfLeadingZeros_0f7a4_76 ?_
    refine V.isub dJ6_numberOfLeadingZeros_0f7a4_77 ?_
    obtain rfl := Option.some.inj h
    exact V.ireturn dJ6_numberOfLeadingZeros_0f7a4_78
  · have h := (if_neg c5).symm.trans h
    refine V.iinc (ls' := [some (LI v0), some (LI (v1 + (-2 : Int32)))]) dJ6_numberOfLeadingZeros_0f7a4_66 rfl ki_m2 (by decide) rfl rfl ?_
    refine V.iload_n dJ6_numberOfLeadingZeros_0f7a4_69 rfl rfl ?_
    refine V.iconst dJ6_numberOfLeadingZeros_0f7a4_70 ki_2 ?_
    refine V.iushr dJ6_numberOfLeadingZeros_0f7a4_71 ?_
    refine V.istore_n (ls' := [some (LI (ush v0 (2 : Int32))), some (LI (v1 + (-2 : Int32)))]) dJ6_numberOfLeadingZeros_0f7a4_72 rfl (by decide) rfl rfl ?_
    refine V.iload_n dJ6_numberOfLeadingZeros_0f7a4_73 rfl rfl ?_
    refine V.iload_n dJ6_numberOfLeadingZeros_0f7a4_74 rfl rfl ?_
    refine V.iconst dJ6_numberOfLeadingZeros_0f7a4_75 ki_1 ?_
    refine V.iushr dJ6_numberOfLeadingZeros_0f7a4_76 ?_
    refine V.isub dJ6_numberOfLeadingZeros_0f7a4_77 ?_
    obtain rfl := Option.some.inj h
    exact V.ireturn dJ6_numberOfLeadingZeros_0f7a4_78
def b_J6_numberOfLeadingZeros_0f7a4_48 (v0 : Int32) (v1 : Int32) : Option (Int32) :=
  if v0 < (16 : Int32) then b_J6_numberOfLeadingZeros_0f7a4_61 v0 v1 else b_J6_numberOfLeadingZeros_0f7a4_61 (ush v0 (4 : Int32)) (v1 + (-4 : Int32))
set_option maxRecDepth 4000 in
theorem wb_J6_numberOfLeadingZeros_0f7a4_48 {g : GG} {n0 z0 : Nat} {A : LH} {v0 : Int32} {v1 : Int32} {p : Int32} (h : b_J6_numberOfLeadingZeros_0f7a4_48 v0 v1 = some p) : V g m_J6_numberOfLeadingZeros_0f7a4 0 n0 z0 (some (LI p)) A A 48 [some (LI v0), some (LI v1)] [] := by
  unfold b_J6_numberOfLeadingZeros_0f7a4_48 at h
  refine V.iload_n dJ6_numberOfLeadingZeros_0f7a4_48 rfl rfl ?_
  refine V.bipush dJ6_numberOfLeadingZeros_0f7a4_49 kb_16 ?_
  refine V.icmp_lt (tgt := 61) dJ6_numberOfLeadingZeros_0f7a4_51 (by decide) (fun c4 => ?_) (fun c4 => ?_)
  · have h := (if_pos c4).symm.trans h
    refine V.weak [true, true] ?_
    exact wb_J6_numberOfLeadingZeros_0f7a4_61 h
  · have h := (if_neg c4).symm.trans h
    refine V.iinc (ls' := [some (LI v0), some (LI (v1 + (-4 : Int32)))]) dJ6_numberOfLeadingZeros_0f7a4_54 rfl ki_m4 (by decide) rfl rfl ?_
    refine V.iload_n dJ6_numberOfLeadingZeros_0f7a4_57 rfl rfl ?_
    refine V.iconst dJ6_numberOfLeadingZeros_0f7a4_58 ki_4 ?_
    refine V.iushr dJ6_numberOfLeadingZeros_0f7a4_59 ?_
    refine V.istore_n (ls' := [some (LI (ush v0 (4 : Int32))), some (LI (v1 + (-4 : Int32)))]) dJ6_numberOfLeadingZeros_0f7a4_60 rfl (by decide) rfl rfl ?_
    refine V.weak [true, true] ?_
    exact wb_J6_numberOfLeadingZeros_0f7a4_61 h
def b_J6_numberOfLeadingZeros_0f7a4_33 (v0 : Int32) (v1 : Int32) : Option (Int32) :=
  if v0 < (256 : Int32) then b_J6_numberOfLeadingZeros_0f7a4_48 v0 v1 else b_J6_numberOfLeadingZeros_0f7a4_48 (ush v0 (8 : Int32)) (v1 + (-8 : Int32))
set_option maxRecDepth 4000 in
theorem wb_J6_numberOfLeadingZeros_0f7a4_33 {g : GG} {n0 z0 : Nat} {A : LH} {v0 : Int32} {v1 : Int32} {p : Int32} (h : b_J6_numberOfLeadingZeros_0f7a4_33 v0 v1 = some p) : V g m_J6_numberOfLeadingZeros_0f7a4 0 n0 z0 (some (LI p)) A A 33 [some (LI v0), some (LI v1)] [] := by
  unfold b_J6_numberOfLeadingZeros_0f7a4_33 at h
  refine V.iload_n dJ6_numberOfLeadingZeros_0f7a4_33 rfl rfl ?_
  refine V.sipush dJ6_numberOfLeadingZeros_0f7a4_34 ks_256 ?_
  refine V.icmp_lt (tgt := 48) dJ6_numberOfLeadingZeros_0f7a4_37 (by decide) (fun c3 => ?_) (fun c3 => ?_)
  · have h := (if_pos c3).symm.trans h
    refine V.weak [true, true] ?_
    exact wb_J6_numberOfLeadingZeros_0f7a4_48 h
  · have h := (if_neg c3).symm.trans h
    refine V.iinc (ls' := [some (LI v0), some (LI (v1 + (-8 : Int32)))]) dJ6_numberOfLeadingZeros_0f7a4_40 rfl ki_m8 (by decide) rfl rfl ?_
    refine V.iload_n dJ6_numberOfLeadingZeros_0f7a4_43 rfl rfl ?_
    refine V.bipush dJ6_numberOfLeadingZeros_0f7a4_44 kb_8 ?_
    refine V.iushr dJ6_numberOfLeadingZeros_0f7a4_46 ?_
    refine V.istore_n (ls' := [some (LI (ush v0 (8 : Int32))), some (LI (v1 + (-8 : Int32)))]) dJ6_numberOfLeadingZeros_0f7a4_47 rfl (by decide) rfl rfl ?_
    refine V.weak [true, true] ?_
    exact wb_J6_numberOfLeadingZeros_0f7a4_48 h
def b_J6_numberOfLeadingZeros_0f7a4 (v0 : Int32) : Option (Int32) :=
  if 0 < v0 then if v0 < (65536 : Int32) then b_J6_numberOfLeadingZeros_0f7a4_33 v0 (31 : Int32) else b_J6_numberOfLeadingZeros_0f7a4_33 (ush v0 (16 : Int32)) ((31 : Int32) + (-16 : Int32)) else if v0 = 0 then some (32 : Int32) else some (0 : Int32)
set_option maxRecDepth 4000 in
theorem wb_J6_numberOfLeadingZeros_0f7a4 {g : GG} {n0 z0 : Nat} {A : LH} {v0 : Int32} {p : Int32} (h : b_J6_numberOfLeadingZeros_0f7a4 v0 = some p) : V g m_J6_numberOfLeadingZeros_0f7a4 0 n0 z0 (some (LI p)) A A 0 [some (LI v0)] [] := by
  unfold b_J6_numberOfLeadingZeros_0f7a4 at h
  refine V.iload_n dJ6_numberOfLeadingZeros_0f7a4_0 rfl rfl ?_
  refine V.if_gt (tgt := 15) dJ6_numberOfLeadingZeros_0f7a4_1 (by decide) (fun c1 => ?_) (fun c1 => ?_)
  · have h := (if_pos c1).symm.trans h
    refine V.bipush dJ6_numberOfLeadingZeros_0f7a4_15 kb_31 ?_
    refine V.istore_n (ls' := [some (LI v0), some (LI (31 : Int32))]) dJ6_numberOfLeadingZeros_0f7a4_17 rfl (by decide) rfl rfl ?_
    refine V.iload_n dJ6_numberOfLeadingZeros_0f7a4_18 rfl rfl ?_
    refine V.ldc_w kc_RJ6_264 dJ6_numberOfLeadingZeros_0f7a4_19 ?_
    refine V.icmp_lt (tgt := 33) dJ6_numberOfLeadingZeros_0f7a4_22 (by decide) (fun c2 => ?_) (fun c2 => ?_)
    · have h := (if_pos c2).symm.trans h
      refine V.weak [true, true] ?_
      exact wb_J6_numberOfLeadingZeros_0f7a4_33 h
    · have h := (if_neg c2).symm.trans h
      refine V.iinc (ls' := [some (LI v0), some (LI ((31 : Int32) + (-16 : Int32)))]) dJ6_numberOfLeadingZeros_0f7a4_25 rfl ki_m16 (by decide) rfl rfl ?_
      refine V.iload_n dJ6_numberOfLeadingZeros_0f7a4_28 rfl rfl ?_
      refine V.bipush dJ6_numberOfLeadingZeros_0f7a4_29 kb_16 ?_
      refine V.iushr dJ6_numberOfLeadingZeros_0f7a4_31 ?_
      refine V.istore_n (ls' := [some (LI (ush v0 (16 : Int32))), some (LI ((31 : Int32) + (-16 : Int32)))]) dJ6_numberOfLeadingZeros_0f7a4_32 rfl (by decide) rfl rfl ?_
      refine V.weak [true, true] ?_
      exact wb_J6_numberOfLeadingZeros_0f7a4_33 h
  · have h := (if_neg c1).symm.trans h
    refine V.iload_n dJ6_numberOfLeadingZeros_0f7a4_4 rfl rfl ?_
    refine V.if_ne (tgt := 13) dJ6_numberOfLeadingZeros_0f7a4_5 (by decide) (fun c6 => ?_) (fun c6 => ?_)
    · have h := (if_neg c6).symm.trans h
      refine V.iconst dJ6_numberOfLeadingZeros_0f7a4_13 ki_0 ?_
      obtain rfl := Option.some.inj h
      exact V.ireturn dJ6_numberOfLeadingZeros_0f7a4_14
    · have h := (if_pos c6).symm.trans h
      refine V.bipush dJ6_numberOfLeadingZeros_0f7a4_8 kb_32 ?_
      refine V.goto (tgt := 14) dJ6_numberOfLeadingZeros_0f7a4_10 (by decide) ?_
      obtain rfl := Option.some.inj h
      exact V.ireturn dJ6_numberOfLeadingZeros_0f7a4_14
def f_J6_numberOfLeadingZeros_0f7a4 (v0 : Int32) : Option (Int32) := b_J6_numberOfLeadingZeros_0f7a4 v0
theorem w_J6_numberOfLeadingZeros_0f7a4 {g : GG} {A : LH} {v0 : Int32} {p : Int32} (h : f_J6_numberOfLeadingZeros_0f7a4 v0 = some p) : Ct g m_J6_numberOfLeadingZeros_0f7a4 0 [LI v0] A (some (LI p)) A := by
  unfold f_J6_numberOfLeadingZeros_0f7a4 at h
  exact ⟨wb_J6_numberOfLeadingZeros_0f7a4 h, rfl⟩
def b_J6_highestOneBit_0f7a4 (v0 : Int32) : Option (Int32) :=
  (f_J6_numberOfLeadingZeros_0f7a4 v0).bind fun p1 => some (v0 &&& (ush (-2147483648 : Int32) p1))
set_option maxRecDepth 4000 in
theorem wb_J6_highestOneBit_0f7a4 {g : GG} {n0 z0 : Nat} {A : LH} {v0 : Int32} {p : Int32} (h : b_J6_highestOneBit_0f7a4 v0 = some p) : V g m_J6_highestOneBit_0f7a4 1 n0 z0 (some (LI p)) A A 0 [some (LI v0)] [] := by
  unfold b_J6_highestOneBit_0f7a4 at h
  refine V.iload_n dJ6_highestOneBit_0f7a4_0 rfl rfl ?_
  refine V.ldc kc_RJ6_127 dJ6_highestOneBit_0f7a4_1 ?_
  refine V.iload_n dJ6_highestOneBit_0f7a4_3 rfl rfl ?_
  obtain ⟨p1, h2, h⟩ := bnd h
  have w3 := w_J6_numberOfLeadingZeros_0f7a4 (g := g) (A := A) h2
  refine V.callSi (args := [LI v0]) (st := [LI (-2147483648 : Int32), LI v0]) w3.1 mk_J6_numberOfLeadingZeros_0f7a4 w3.2 ml_RJ6_51 sm_J6_numberOfLeadingZeros_0f7a4 rfl (Nat.le_of_ble_eq_true rfl) (by decide) rfl (Nat.le_of_ble_eq_true rfl) dJ6_highestOneBit_0f7a4_4 ?_
  refine V.iushr dJ6_highestOneBit_0f7a4_7 ?_
  refine V.iand dJ6_highestOneBit_0f7a4_8 ?_
  obtain rfl := Option.some.inj h
  exact V.ireturn dJ6_highestOneBit_0f7a4_9
def f_J6_highestOneBit_0f7a4 (v0 : Int32) : Option (Int32) := b_J6_highestOneBit_0f7a4 v0
theorem w_J6_highestOneBit_0f7a4 {g : GG} {A : LH} {v0 : Int32} {p : Int32} (h : f_J6_highestOneBit_0f7a4 v0 = some p) : Ct g m_J6_highestOneBit_0f7a4 1 [LI v0] A (some (LI p)) A := by
  unfold f_J6_highestOneBit_0f7a4 at h
  exact ⟨wb_J6_highestOneBit_0f7a4 h, rfl⟩
def b_J6_lowestOneBit_0f7a4 (v0 : Int32) : Option (Int32) :=
  some (v0 &&& (-v0))
set_option maxRecDepth 4000 in
theorem wb_J6_lowestOneBit_0f7a4 {g : GG} {n0 z0 : Nat} {A : LH} {v0 : Int32} {p : Int32} (h : b_J6_lowestOneBit_0f7a4 v0 = some p) : V g m_J6_lowestOneBit_0f7a4 0 n0 z0 (some (LI p)) A A 0 [some (LI v0)] [] := by
  unfold b_J6_lowestOneBit_0f7a4 at h
  refine V.iload_n dJ6_lowestOneBit_0f7a4_0 rfl rfl ?_
  refine V.iload_n dJ6_lowestOneBit_0f7a4_1 rfl rfl ?_
  refine V.ineg dJ6_lowestOneBit_0f7a4_2 ?_
  refine V.iand dJ6_lowestOneBit_0f7a4_3 ?_
  obtain rfl := Option.some.inj h
  exact V.ireturn dJ6_lowestOneBit_0f7a4_4
def f_J6_lowestOneBit_0f7a4 (v0 : Int32) : Option (Int32) := b_J6_lowestOneBit_0f7a4 v0
theorem w_J6_lowestOneBit_0f7a4 {g : GG} {A : LH} {v0 : Int32} {p : Int32} (h : f_J6_lowestOneBit_0f7a4 v0 = some p) : Ct g m_J6_lowestOneBit_0f7a4 0 [LI v0] A (some (LI p)) A := by
  unfold f_J6_lowestOneBit_0f7a4 at h
  exact ⟨wb_J6_lowestOneBit_0f7a4 h, rfl⟩
def b_J6_numberOfTrailingZeros_0f7a4_62 (v0 : Int32) (v1 : Int32) : Option (Int32) :=
  if v0 ≤ (4 : Int32) then some (v1 + (ush v0 (1 : Int32))) else some ((v1 + (2 : Int32)) + (ush (ush v0 (2 : Int32)) (1 : Int32)))
set_option maxRecDepth 4000 in
theorem wb_J6_numberOfTrailingZeros_0f7a4_62 {g : GG} {n0 z0 : Nat} {A : LH} {v0 : Int32} {v1 : Int32} {p : Int32} (h : b_J6_numberOfTrailingZeros_0f7a4_62 v0 v1 = some p) : V g m_J6_numberOfTrailingZeros_0f7a4 0 n0 z0 (some (LI p)) A A 62 [some (LI v0), some (LI v1)] [] := by
  unfold b_J6_numberOfTrailingZeros_0f7a4_62 at h
  refine V.iload_n dJ6_numberOfTrailingZeros_0f7a4_62 rfl rfl ?_
  refine V.iconst dJ6_numberOfTrailingZeros_0f7a4_63 ki_4 ?_
  refine V.icmp_le (tgt := 74) dJ6_numberOfTrailingZeros_0f7a4_64 (by decide) (fun c5 => ?_) (fun c5 => ?_)
  · have h := (if_pos c5).symm.trans h
    refine V.iload_n dJ6_numberOfTrailingZeros_0f7a4_74 rfl rfl ?_
    refine V.iload_n dJ6_numberOfTrailingZeros_0f7a4_75 rfl rfl ?_
    refine V.iconst dJ6_numberOfTrailingZeros_0f7a4_76 ki_1 ?_
    refine V.iushr dJ6_numberOfTrailingZeros_0f7a4_77 ?_
    refine V.iadd dJ6_numberOfTrailingZeros_0f7a4_78 ?_
    obtain rfl := Option.some.inj h
    exact V.ireturn dJ6_numberOfTrailingZeros_0f7a4_79
  · have h := (if_neg c5).symm.trans h
    refine V.iinc (ls' := [some (LI v0), some (LI (v1 + (2 : Int32)))]) dJ6_numberOfTrailingZeros_0f7a4_67 rfl ki_2 (by decide) rfl rfl ?_
    refine V.iload_n dJ6_numberOfTrailingZeros_0f7a4_70 rfl rfl ?_
    refine V.iconst dJ6_numberOfTrailingZeros_0f7a4_71 ki_2 ?_
    refine V.iushr dJ6_numberOfTrailingZeros_0f7a4_72 ?_
    refine V.istore_n (ls' := [some (LI (ush v0 (2 : Int32))), some (LI (v1 + (2 : Int32)))]) dJ6_numberOfTrailingZeros_0f7a4_73 rfl (by decide) rfl rfl ?_
    refine V.iload_n dJ6_numberOfTrailingZeros_0f7a4_74 rfl rfl ?_
    refine V.iload_n dJ6_numberOfTrailingZeros_0f7a4_75 rfl rfl ?_
    refine V.iconst dJ6_numberOfTrailingZeros_0f7a4_76 ki_1 ?_
    refine V.iushr dJ6_numberOfTrailingZeros_0f7a4_77 ?_
    refine V.iadd dJ6_numberOfTrailingZeros_0f7a4_78 ?_
    obtain rfl := Option.some.inj h
    exact V.ireturn dJ6_numberOfTrailingZeros_0f7a4_79
def b_J6_numberOfTrailingZeros_0f7a4_49 (v0 : Int32) (v1 : Int32) : Option (Int32) :=
  if v0 ≤ (16 : Int32) then b_J6_numberOfTrailingZeros_0f7a4_62 v0 v1 else b_J6_numberOfTrailingZeros_0f7a4_62 (ush v0 (4 : Int32)) (v1 + (4 : Int32))
set_option maxRecDepth 4000 in
theorem wb_J6_numberOfTrailingZeros_0f7a4_49 {g : GG} {n0 z0 : Nat} {A : LH} {v0 : Int32} {v1 : Int32} {p : Int32} (h : b_J6_numberOfTrailingZeros_0f7a4_49 v0 v1 = some p) : V g m_J6_numberOfTrailingZeros_0f7a4 0 n0 z0 (some (LI p)) A A 49 [some (LI v0), some (LI v1)] [] := by
  unfold b_J6_numberOfTrailingZeros_0f7a4_49 at h
  refine V.iload_n dJ6_numberOfTrailingZeros_0f7a4_49 rfl rfl ?_
  refine V.bipush dJ6_numberOfTrailingZeros_0f7a4_50 kb_16 ?_
  refine V.icmp_le (tgt := 62) dJ6_numberOfTrailingZeros_0f7a4_52 (by decide) (fun c4 => ?_) (fun c4 => ?_)
  · have h := (if_pos c4).symm.trans h
    refine V.weak [true, true] ?_
    exact wb_J6_numberOfTrailingZeros_0f7a4_62 h
  · have h := (if_neg c4).symm.trans h
    refine V.iinc (ls' := [some (LI v0), some (LI (v1 + (4 : Int32)))]) dJ6_numberOfTrailingZeros_0f7a4_55 rfl ki_4 (by decide) rfl rfl ?_
    refine V.iload_n dJ6_numberOfTrailingZeros_0f7a4_58 rfl rfl ?_
    refine V.iconst dJ6_numberOfTrailingZeros_0f7a4_59 ki_4 ?_
    refine V.iushr dJ6_numberOfTrailingZeros_0f7a4_60 ?_
    refine V.istore_n (ls' := [some (LI (ush v0 (4 : Int32))), some (LI (v1 + (4 : Int32)))]) dJ6_numberOfTrailingZeros_0f7a4_61 rfl (by decide) rfl rfl ?_
    refine V.weak [true, true] ?_
    exact wb_J6_numberOfTrailingZeros_0f7a4_62 h
def b_J6_numberOfTrailingZeros_0f7a4_34 (v0 : Int32) (v1 : Int32) : Option (Int32) :=
  if v0 ≤ (256 : Int32) then b_J6_numberOfTrailingZeros_0f7a4_49 v0 v1 else b_J6_numberOfTrailingZeros_0f7a4_49 (ush v0 (8 : Int32)) (v1 + (8 : Int32))
set_option maxRecDepth 4000 in
theorem wb_J6_numberOfTrailingZeros_0f7a4_34 {g : GG} {n0 z0 : Nat} {A : LH} {v0 : Int32} {v1 : Int32} {p : Int32} (h : b_J6_numberOfTrailingZeros_0f7a4_34 v0 v1 = some p) : V g m_J6_numberOfTrailingZeros_0f7a4 0 n0 z0 (some (LI p)) A A 34 [some (LI v0), some (LI v1)] [] := by
  unfold b_J6_numberOfTrailingZeros_0f7a4_34 at h
  refine V.iload_n dJ6_numberOfTrailingZeros_0f7a4_34 rfl rfl ?_
  refine V.sipush dJ6_numberOfTrailingZeros_0f7a4_35 ks_256 ?_
  refine V.icmp_le (tgt := 49) dJ6_numberOfTrailingZeros_0f7a4_38 (by decide) (fun c3 => ?_) (fun c3 => ?_)
  · have h := (if_pos c3).symm.trans h
    refine V.weak [true, true] ?_
    exact wb_J6_numberOfTrailingZeros_0f7a4_49 h
  · have h := (if_neg c3).symm.trans h
    refine V.iinc (ls' := [some (LI v0), some (LI (v1 + (8 : Int32)))]) dJ6_numberOfTrailingZeros_0f7a4_41 rfl ki_8 (by decide) rfl rfl ?_
    refine V.iload_n dJ6_numberOfTrailingZeros_0f7a4_44 rfl rfl ?_
    refine V.bipush dJ6_numberOfTrailingZeros_0f7a4_45 kb_8 ?_
    refine V.iushr dJ6_numberOfTrailingZeros_0f7a4_47 ?_
    refine V.istore_n (ls' := [some (LI (ush v0 (8 : Int32))), some (LI (v1 + (8 : Int32)))]) dJ6_numberOfTrailingZeros_0f7a4_48 rfl (by decide) rfl rfl ?_
    refine V.weak [true, true] ?_
    exact wb_J6_numberOfTrailingZeros_0f7a4_49 h
def b_J6_numberOfTrailingZeros_0f7a4 (v0 : Int32) : Option (Int32) :=
  if 0 < ((v0 ^^^ (-1 : Int32)) &&& (v0 - (1 : Int32))) then if ((v0 ^^^ (-1 : Int32)) &&& (v0 - (1 : Int32))) ≤ (65536 : Int32) then b_J6_numberOfTrailingZeros_0f7a4_34 ((v0 ^^^ (-1 : Int32)) &&& (v0 - (1 : Int32))) (1 : Int32) else b_J6_numberOfTrailingZeros_0f7a4_34 (ush ((v0 ^^^ (-1 : Int32)) &&& (v0 - (1 : Int32))) (16 : Int32)) ((1 : Int32) + (16 : Int32)) else some (((v0 ^^^ (-1 : Int32)) &&& (v0 - (1 : Int32))) &&& (32 : Int32))
set_option maxRecDepth 4000 in
theorem wb_J6_numberOfTrailingZeros_0f7a4 {g : GG} {n0 z0 : Nat} {A : LH} {v0 : Int32} {p : Int32} (h : b_J6_numberOfTrailingZeros_0f7a4 v0 = some p) : V g m_J6_numberOfTrailingZeros_0f7a4 0 n0 z0 (some (LI p)) A A 0 [some (LI v0)] [] := by
  unfold b_J6_numberOfTrailingZeros_0f7a4 at h
  refine V.iload_n dJ6_numberOfTrailingZeros_0f7a4_0 rfl rfl ?_
  refine V.iconst dJ6_numberOfTrailingZeros_0f7a4_1 ki_m1 ?_
  refine V.ixor dJ6_numberOfTrailingZeros_0f7a4_2 ?_
  refine V.iload_n dJ6_numberOfTrailingZeros_0f7a4_3 rfl rfl ?_
  refine V.iconst dJ6_numberOfTrailingZeros_0f7a4_4 ki_1 ?_
  refine V.isub dJ6_numberOfTrailingZeros_0f7a4_5 ?_
  refine V.iand dJ6_numberOfTrailingZeros_0f7a4_6 ?_
  refine V.istore_n (ls' := [some (LI ((v0 ^^^ (-1 : Int32)) &&& (v0 - (1 : Int32))))]) dJ6_numberOfTrailingZeros_0f7a4_7 rfl (by decide) rfl rfl ?_
  refine V.iload_n dJ6_numberOfTrailingZeros_0f7a4_8 rfl rfl ?_
  refine V.if_gt (tgt := 17) dJ6_numberOfTrailingZeros_0f7a4_9 (by decide) (fun c1 => ?_) (fun c1 => ?_)
  · have h := (if_pos c1).symm.trans h
    refine V.iconst dJ6_numberOfTrailingZeros_0f7a4_17 ki_1 ?_
    refine V.istore_n (ls' := [some (LI ((v0 ^^^ (-1 : Int32)) &&& (v0 - (1 : Int32)))), some (LI (1 : Int32))]) dJ6_numberOfTrailingZeros_0f7a4_18 rfl (by decide) rfl rfl ?_
    refine V.iload_n dJ6_numberOfTrailingZeros_0f7a4_19 rfl rfl ?_
    refine V.ldc_w kc_RJ6_264 dJ6_numberOfTrailingZeros_0f7a4_20 ?_
    refine V.icmp_le (tgt := 34) dJ6_numberOfTrailingZeros_0f7a4_23 (by decide) (fun c2 => ?_) (fun c2 => ?_)
    · have h := (if_pos c2).symm.trans h
      refine V.weak [true, true] ?_
      exact wb_J6_numberOfTrailingZeros_0f7a4_34 h
    · have h := (if_neg c2).symm.trans h
      refine V.iinc (ls' := [some (LI ((v0 ^^^ (-1 : Int32)) &&& (v0 - (1 : Int32)))), some (LI ((1 : Int32) + (16 : Int32)))]) dJ6_numberOfTrailingZeros_0f7a4_26 rfl ki_16 (by decide) rfl rfl ?_
      refine V.iload_n dJ6_numberOfTrailingZeros_0f7a4_29 rfl rfl ?_
      refine V.bipush dJ6_numberOfTrailingZeros_0f7a4_30 kb_16 ?_
      refine V.iushr dJ6_numberOfTrailingZeros_0f7a4_32 ?_
      refine V.istore_n (ls' := [some (LI (ush ((v0 ^^^ (-1 : Int32)) &&& (v0 - (1 : Int32))) (16 : Int32))), some (LI ((1 : Int32) + (16 : Int32)))]) dJ6_numberOfTrailingZeros_0f7a4_33 rfl (by decide) rfl rfl ?_
      refine V.weak [true, true] ?_
      exact wb_J6_numberOfTrailingZeros_0f7a4_34 h
  · have h := (if_neg c1).symm.trans h
    refine V.iload_n dJ6_numberOfTrailingZeros_0f7a4_12 rfl rfl ?_
    refine V.bipush dJ6_numberOfTrailingZeros_0f7a4_13 kb_32 ?_
    refine V.iand dJ6_numberOfTrailingZeros_0f7a4_15 ?_
    obtain rfl := Option.some.inj h
    exact V.ireturn dJ6_numberOfTrailingZeros_0f7a4_16
def f_J6_numberOfTrailingZeros_0f7a4 (v0 : Int32) : Option (Int32) := b_J6_numberOfTrailingZeros_0f7a4 v0
theorem w_J6_numberOfTrailingZeros_0f7a4 {g : GG} {A : LH} {v0 : Int32} {p : Int32} (h : f_J6_numberOfTrailingZeros_0f7a4 v0 = some p) : Ct g m_J6_numberOfTrailingZeros_0f7a4 0 [LI v0] A (some (LI p)) A := by
  unfold f_J6_numberOfTrailingZeros_0f7a4 at h
  exact ⟨wb_J6_numberOfTrailingZeros_0f7a4 h, rfl⟩
def b_J6_bitCount_0f7a4 (v0 : Int32) : Option (Int32) :=
  some ((((((((v0 - ((ush v0 (1 : Int32)) &&& (1431655765 : Int32))) &&& (858993459 : Int32)) + ((ush (v0 - ((ush v0 (1 : Int32)) &&& (1431655765 : Int32))) (2 : Int32)) &&& (858993459 : Int32))) + (ush (((v0 - ((ush v0 (1 : Int32)) &&& (1431655765 : Int32))) &&& (858993459 : Int32)) + ((ush (v0 - ((ush v0 (1 : Int32)) &&& (1431655765 : Int32))) (2 : Int32)) &&& (858993459 : Int32))) (4 : Int32))) &&& (252645135 : Int32)) + (ush (((((v0 - ((ush v0 (1 : Int32)) &&& (1431655765 : Int32))) &&& (858993459 : Int32)) + ((ush (v0 - ((ush v0 (1 : Int32)) &&& (1431655765 : Int32))) (2 : Int32)) &&& (858993459 : Int32))) + (ush (((v0 - ((ush v0 (1 : Int32)) &&& (1431655765 : Int32))) &&& (858993459 : Int32)) + ((ush (v0 - ((ush v0 (1 : Int32)) &&& (1431655765 : Int32))) (2 : Int32)) &&& (858993459 : Int32))) (4 : Int32))) &&& (252645135 : Int32)) (8 : Int32))) + (ush ((((((v0 - ((ush v0 (1 : Int32)) &&& (1431655765 : Int32))) &&& (858993459 : Int32)) + ((ush (v0 - ((ush v0 (1 : Int32)) &&& (1431655765 : Int32))) (2 : Int32)) &&& (858993459 : Int32))) + (ush (((v0 - ((ush v0 (1 : Int32)) &&& (1431655765 : Int32))) &&& (858993459 : Int32)) + ((ush (v0 - ((ush v0 (1 : Int32)) &&& (1431655765 : Int32))) (2 : Int32)) &&& (858993459 : Int32))) (4 : Int32))) &&& (252645135 : Int32)) + (ush (((((v0 - ((ush v0 (1 : Int32)) &&& (1431655765 : Int32))) &&& (858993459 : Int32)) + ((ush (v0 - ((ush v0 (1 : Int32)) &&& (1431655765 : Int32))) (2 : Int32)) &&& (858993459 : Int32))) + (ush (((v0 - ((ush v0 (1 : Int32)) &&& (1431655765 : Int32))) &&& (858993459 : Int32)) + ((ush (v0 - ((ush v0 (1 : Int32)) &&& (1431655765 : Int32))) (2 : Int32)) &&& (858993459 : Int32))) (4 : Int32))) &&& (252645135 : Int32)) (8 : Int32))) (16 : Int32))) &&& (63 : Int32))
set_option maxRecDepth 4000 in
theorem wb_J6_bitCount_0f7a4 {g : GG} {n0 z0 : Nat} {A : LH} {v0 : Int32} {p : Int32} (h : b_J6_bitCount_0f7a4 v0 = some p) : V g m_J6_bitCount_0f7a4 0 n0 z0 (some (LI p)) A A 0 [some (LI v0)] [] := by
  unfold b_J6_bitCount_0f7a4 at h
  refine V.iload_n dJ6_bitCount_0f7a4_0 rfl rfl ?_
  refine V.iload_n dJ6_bitCount_0f7a4_1 rfl rfl ?_
  refine V.iconst dJ6_bitCount_0f7a4_2 ki_1 ?_
  refine V.iushr dJ6_bitCount_0f7a4_3 ?_
  refine V.ldc_w kc_RJ6_265 dJ6_bitCount_0f7a4_4 ?_
  refine V.iand dJ6_bitCount_0f7a4_7 ?_
  refine V.isub dJ6_bitCount_0f7a4_8 ?_
  refine V.istore_n (ls' := [some (LI (v0 - ((ush v0 (1 : Int32)) &&& (1431655765 : Int32))))]) dJ6_bitCount_0f7a4_9 rfl (by decide) rfl rfl ?_
  refine V.iload_n dJ6_bitCount_0f7a4_10 rfl rfl ?_
  refine V.ldc_w kc_RJ6_266 dJ6_bitCount_0f7a4_11 ?_
  refine V.iand dJ6_bitCount_0f7a4_14 ?_
  refine V.iload_n dJ6_bitCount_0f7a4_15 rfl rfl ?_
  refine V.iconst dJ6_bitCount_0f7a4_16 ki_2 ?_
  refine V.iushr dJ6_bitCount_0f7a4_17 ?_
  refine V.ldc_w kc_RJ6_266 dJ6_bitCount_0f7a4_18 ?_
  refine V.iand dJ6_bitCount_0f7a4_21 ?_
  refine V.iadd dJ6_bitCount_0f7a4_22 ?_
  refine V.istore_n (ls' := [some (LI (((v0 - ((ush v0 (1 : Int32)) &&& (1431655765 : Int32))) &&& (858993459 : Int32)) + ((ush (v0 - ((ush v0 (1 : Int32)) &&& (1431655765 : Int32))) (2 : Int32)) &&& (858993459 : Int32))))]) dJ6_bitCount_0f7a4_23 rfl (by decide) rfl rfl ?_
  refine V.iload_n dJ6_bitCount_0f7a4_24 rfl rfl ?_
  refine V.iload_n dJ6_bitCount_0f7a4_25 rfl rfl ?_
  refine V.iconst dJ6_bitCount_0f7a4_26 ki_4 ?_
  refine V.iushr dJ6_bitCount_0f7a4_27 ?_
  refine V.iadd dJ6_bitCount_0f7a4_28 ?_
  refine V.ldc_w kc_RJ6_267 dJ6_bitCount_0f7a4_29 ?_
  refine V.iand dJ6_bitCount_0f7a4_32 ?_
  refine V.istore_n (ls' := [some (LI (((((v0 - ((ush v0 (1 : Int32)) &&& (1431655765 : Int32))) &&& (858993459 : Int32)) + ((ush (v0 - ((ush v0 (1 : Int32)) &&& (1431655765 : Int32))) (2 : Int32)) &&& (858993459 : Int32))) + (ush (((v0 - ((ush v0 (1 : Int32)) &&& (1431655765 : Int32))) &&& (858993459 : Int32)) + ((ush (v0 - ((ush v0 (1 : Int32)) &&& (1431655765 : Int32))) (2 : Int32)) &&& (858993459 : Int32))) (4 : Int32))) &&& (252645135 : Int32)))]) dJ6_bitCount_0f7a4_33 rfl (by decide) rfl rfl ?_
  refine V.iload_n dJ6_bitCount_0f7a4_34 rfl rfl ?_
  refine V.iload_n dJ6_bitCount_0f7a4_35 rfl rfl ?_
  refine V.bipush dJ6_bitCount_0f7a4_36 kb_8 ?_
  refine V.iushr dJ6_bitCount_0f7a4_38 ?_
  refine V.iadd dJ6_bitCount_0f7a4_39 ?_
  refine V.istore_n (ls' := [some (LI ((((((v0 - ((ush v0 (1 : Int32)) &&& (1431655765 : Int32))) &&& (858993459 : Int32)) + ((ush (v0 - ((ush v0 (1 : Int32)) &&& (1431655765 : Int32))) (2 : Int32)) &&& (858993459 : Int32))) + (ush (((v0 - ((ush v0 (1 : Int32)) &&& (1431655765 : Int32))) &&& (858993459 : Int32)) + ((ush (v0 - ((ush v0 (1 : Int32)) &&& (1431655765 : Int32))) (2 : Int32)) &&& (858993459 : Int32))) (4 : Int32))) &&& (252645135 : Int32)) + (ush (((((v0 - ((ush v0 (1 : Int32)) &&& (1431655765 : Int32))) &&& (858993459 : Int32)) + ((ush (v0 - ((ush v0 (1 : Int32)) &&& (1431655765 : Int32))) (2 : Int32)) &&& (858993459 : Int32))) + (ush (((v0 - ((ush v0 (1 : Int32)) &&& (1431655765 : Int32))) &&& (858993459 : Int32)) + ((ush (v0 - ((ush v0 (1 : Int32)) &&& (1431655765 : Int32))) (2 : Int32)) &&& (858993459 : Int32))) (4 : Int32))) &&& (252645135 : Int32)) (8 : Int32))))]) dJ6_bitCount_0f7a4_40 rfl (by decide) rfl rfl ?_
  refine V.iload_n dJ6_bitCount_0f7a4_41 rfl rfl ?_
  refine V.iload_n dJ6_bitCount_0f7a4_42 rfl rfl ?_
  refine V.bipush dJ6_bitCount_0f7a4_43 kb_16 ?_
  refine V.iushr dJ6_bitCount_0f7a4_45 ?_
  refine V.iadd dJ6_bitCount_0f7a4_46 ?_
  refine V.istore_n (ls' := [some (LI (((((((v0 - ((ush v0 (1 : Int32)) &&& (1431655765 : Int32))) &&& (858993459 : Int32)) + ((ush (v0 - ((ush v0 (1 : Int32)) &&& (1431655765 : Int32))) (2 : Int32)) &&& (858993459 : Int32))) + (ush (((v0 - ((ush v0 (1 : Int32)) &&& (1431655765 : Int32))) &&& (858993459 : Int32)) + ((ush (v0 - ((ush v0 (1 : Int32)) &&& (1431655765 : Int32))) (2 : Int32)) &&& (858993459 : Int32))) (4 : Int32))) &&& (252645135 : Int32)) + (ush (((((v0 - ((ush v0 (1 : Int32)) &&& (1431655765 : Int32))) &&& (858993459 : Int32)) + ((ush (v0 - ((ush v0 (1 : Int32)) &&& (1431655765 : Int32))) (2 : Int32)) &&& (858993459 : Int32))) + (ush (((v0 - ((ush v0 (1 : Int32)) &&& (1431655765 : Int32))) &&& (858993459 : Int32)) + ((ush (v0 - ((ush v0 (1 : Int32)) &&& (1431655765 : Int32))) (2 : Int32)) &&& (858993459 : Int32))) (4 : Int32))) &&& (252645135 : Int32)) (8 : Int32))) + (ush ((((((v0 - ((ush v0 (1 : Int32)) &&& (1431655765 : Int32))) &&& (858993459 : Int32)) + ((ush (v0 - ((ush v0 (1 : Int32)) &&& (1431655765 : Int32))) (2 : Int32)) &&& (858993459 : Int32))) + (ush (((v0 - ((ush v0 (1 : Int32)) &&& (1431655765 : Int32))) &&& (858993459 : Int32)) + ((ush (v0 - ((ush v0 (1 : Int32)) &&& (1431655765 : Int32))) (2 : Int32)) &&& (858993459 : Int32))) (4 : Int32))) &&& (252645135 : Int32)) + (ush (((((v0 - ((ush v0 (1 : Int32)) &&& (1431655765 : Int32))) &&& (858993459 : Int32)) + ((ush (v0 - ((ush v0 (1 : Int32)) &&& (1431655765 : Int32))) (2 : Int32)) &&& (858993459 : Int32))) + (ush (((v0 - ((ush v0 (1 : Int32)) &&& (1431655765 : Int32))) &&& (858993459 : Int32)) + ((ush (v0 - ((ush v0 (1 : Int32)) &&& (1431655765 : Int32))) (2 : Int32)) &&& (858993459 : Int32))) (4 : Int32))) &&& (252645135 : Int32)) (8 : Int32))) (16 : Int32))))]) dJ6_bitCount_0f7a4_47 rfl (by decide) rfl rfl ?_
  refine V.iload_n dJ6_bitCount_0f7a4_48 rfl rfl ?_
  refine V.bipush dJ6_bitCount_0f7a4_49 kb_63 ?_
  refine V.iand dJ6_bitCount_0f7a4_51 ?_
  obtain rfl := Option.some.inj h
  exact V.ireturn dJ6_bitCount_0f7a4_52
def f_J6_bitCount_0f7a4 (v0 : Int32) : Option (Int32) := b_J6_bitCount_0f7a4 v0
theorem w_J6_bitCount_0f7a4 {g : GG} {A : LH} {v0 : Int32} {p : Int32} (h : f_J6_bitCount_0f7a4 v0 = some p) : Ct g m_J6_bitCount_0f7a4 0 [LI v0] A (some (LI p)) A := by
  unfold f_J6_bitCount_0f7a4 at h
  exact ⟨wb_J6_bitCount_0f7a4 h, rfl⟩
def b_X10_isIn (v0 : Int32) (v1 : Int32) : Option (Int32) :=
  if v0 < 0 then some (0 : Int32) else if v1 ≤ v0 then some (0 : Int32) else some (1 : Int32)
set_option maxRecDepth 4000 in
theorem wb_X10_isIn {g : GG} {n0 z0 : Nat} {A : LH} {v0 : Int32} {v1 : Int32} {p : Int32} (h : b_X10_isIn v0 v1 = some p) : V g m_X10_isIn 0 n0 z0 (some (LI p)) A A 0 [some (LI v0), some (LI v1)] [] := by
  unfold b_X10_isIn at h
  refine V.iload_n dX10_isIn_0 rfl rfl ?_
  refine V.if_lt (tgt := 13) dX10_isIn_1 (by decide) (fun c1 => ?_) (fun c1 => ?_)
  · have h := (if_pos c1).symm.trans h
    refine V.iconst dX10_isIn_13 ki_0 ?_
    obtain rfl := Option.some.inj h
    exact V.ireturn dX10_isIn_14
  · have h := (if_neg c1).symm.trans h
    refine V.iload_n dX10_isIn_4 rfl rfl ?_
    refine V.iload_n dX10_isIn_5 rfl rfl ?_
    refine V.icmp_ge (tgt := 13) dX10_isIn_6 (by decide) (fun c2 => ?_) (fun c2 => ?_)
    · have h := (if_pos c2).symm.trans h
      refine V.iconst dX10_isIn_13 ki_0 ?_
      obtain rfl := Option.some.inj h
      exact V.ireturn dX10_isIn_14
    · have h := (if_neg c2).symm.trans h
      refine V.iconst dX10_isIn_9 ki_1 ?_
      refine V.goto (tgt := 14) dX10_isIn_10 (by decide) ?_
      obtain rfl := Option.some.inj h
      exact V.ireturn dX10_isIn_14
def f_X10_isIn (v0 : Int32) (v1 : Int32) : Option (Int32) := zd (b_X10_isIn v0 v1)
theorem w_X10_isIn {g : GG} {A : LH} {v0 : Int32} {v1 : Int32} {p : Int32} (h : f_X10_isIn v0 v1 = some p) : Ct g m_X10_isIn 0 [LI v0, LI v1] A (some (LI p)) A := by
  unfold f_X10_isIn at h
  obtain ⟨h, hz⟩ := zd_sp h
  exact ⟨wb_X10_isIn h, (RTz hz)⟩
def b_X10_isUpTo (v0 : Int32) (v1 : Int32) : Option (Int32) :=
  if v0 < 0 then some (0 : Int32) else if v1 < v0 then some (0 : Int32) else some (1 : Int32)
set_option maxRecDepth 4000 in
theorem wb_X10_isUpTo {g : GG} {n0 z0 : Nat} {A : LH} {v0 : Int32} {v1 : Int32} {p : Int32} (h : b_X10_isUpTo v0 v1 = some p) : V g m_X10_isUpTo 0 n0 z0 (some (LI p)) A A 0 [some (LI v0), some (LI v1)] [] := by
  unfold b_X10_isUpTo at h
  refine V.iload_n dX10_isUpTo_0 rfl rfl ?_
  refine V.if_lt (tgt := 13) dX10_isUpTo_1 (by decide) (fun c1 => ?_) (fun c1 => ?_)
  · have h := (if_pos c1).symm.trans h
    refine V.iconst dX10_isUpTo_13 ki_0 ?_
    obtain rfl := Option.some.inj h
    exact V.ireturn dX10_isUpTo_14
  · have h := (if_neg c1).symm.trans h
    refine V.iload_n dX10_isUpTo_4 rfl rfl ?_
    refine V.iload_n dX10_isUpTo_5 rfl rfl ?_
    refine V.icmp_gt (tgt := 13) dX10_isUpTo_6 (by decide) (fun c2 => ?_) (fun c2 => ?_)
    · have h := (if_pos c2).symm.trans h
      refine V.iconst dX10_isUpTo_13 ki_0 ?_
      obtain rfl := Option.some.inj h
      exact V.ireturn dX10_isUpTo_14
    · have h := (if_neg c2).symm.trans h
      refine V.iconst dX10_isUpTo_9 ki_1 ?_
      refine V.goto (tgt := 14) dX10_isUpTo_10 (by decide) ?_
      obtain rfl := Option.some.inj h
      exact V.ireturn dX10_isUpTo_14
def f_X10_isUpTo (v0 : Int32) (v1 : Int32) : Option (Int32) := zd (b_X10_isUpTo v0 v1)
theorem w_X10_isUpTo {g : GG} {A : LH} {v0 : Int32} {v1 : Int32} {p : Int32} (h : f_X10_isUpTo v0 v1 = some p) : Ct g m_X10_isUpTo 0 [LI v0, LI v1] A (some (LI p)) A := by
  unfold f_X10_isUpTo at h
  obtain ⟨h, hz⟩ := zd_sp h
  exact ⟨wb_X10_isUpTo h, (RTz hz)⟩
def b_X10_hasBit (v0 : Int32) (v1 : Int32) : Option (Int32) :=
  if ((ush v0 v1) &&& (1 : Int32)) = 0 then some (0 : Int32) else some (1 : Int32)
set_option maxRecDepth 4000 in
theorem wb_X10_hasBit {g : GG} {n0 z0 : Nat} {A : LH} {v0 : Int32} {v1 : Int32} {p : Int32} (h : b_X10_hasBit v0 v1 = some p) : V g m_X10_hasBit 0 n0 z0 (some (LI p)) A A 0 [some (LI v0), some (LI v1)] [] := by
  unfold b_X10_hasBit at h
  refine V.iload_n dX10_hasBit_0 rfl rfl ?_
  refine V.iload_n dX10_hasBit_1 rfl rfl ?_
  refine V.iushr dX10_hasBit_2 ?_
  refine V.iconst dX10_hasBit_3 ki_1 ?_
  refine V.iand dX10_hasBit_4 ?_
  refine V.if_eq (tgt := 12) dX10_hasBit_5 (by decide) (fun c1 => ?_) (fun c1 => ?_)
  · have h := (if_pos c1).symm.trans h
    refine V.iconst dX10_hasBit_12 ki_0 ?_
    obtain rfl := Option.some.inj h
    exact V.ireturn dX10_hasBit_13
  · have h := (if_neg c1).symm.trans h
    refine V.iconst dX10_hasBit_8 ki_1 ?_
    refine V.goto (tgt := 13) dX10_hasBit_9 (by decide) ?_
    obtain rfl := Option.some.inj h
    exact V.ireturn dX10_hasBit_13
def f_X10_hasBit (v0 : Int32) (v1 : Int32) : Option (Int32) := zd (b_X10_hasBit v0 v1)
theorem w_X10_hasBit {g : GG} {A : LH} {v0 : Int32} {v1 : Int32} {p : Int32} (h : f_X10_hasBit v0 v1 = some p) : Ct g m_X10_hasBit 0 [LI v0, LI v1] A (some (LI p)) A := by
  unfold f_X10_hasBit at h
  obtain ⟨h, hz⟩ := zd_sp h
  exact ⟨wb_X10_hasBit h, (RTz hz)⟩
def b_X10_canBePerson (v0 : Int32) (v1 : Int32) : Option (Int32) :=
  (f_X10_isUpTo v0 (255 : Int32)).bind fun p1 => if p1 = 0 then some (0 : Int32) else (f_X10_isUpTo v1 (5 : Int32)).bind fun p5 => if p5 = 0 then some (0 : Int32) else some (1 : Int32)
set_option maxRecDepth 4000 in
theorem wb_X10_canBePerson {g : GG} {n0 z0 : Nat} {A : LH} {v0 : Int32} {v1 : Int32} {p : Int32} (h : b_X10_canBePerson v0 v1 = some p) : V g m_X10_canBePerson 1 n0 z0 (some (LI p)) A A 0 [some (LI v0), some (LI v1)] [] := by
  unfold b_X10_canBePerson at h
  refine V.iload_n dX10_canBePerson_0 rfl rfl ?_
  refine V.sipush dX10_canBePerson_1 ks_255 ?_
  obtain ⟨p1, h2, h⟩ := bnd h
  have w3 := w_X10_isUpTo (g := g) (A := A) h2
  refine V.callSi (args := [LI v0, LI (255 : Int32)]) (st := []) w3.1 mk_X10_isUpTo w3.2 ml_RX10_107 sm_X10_isUpTo rfl (Nat.le_of_ble_eq_true rfl) (by decide) rfl (Nat.le_of_ble_eq_true rfl) dX10_canBePerson_4 ?_
  refine V.if_eq (tgt := 22) dX10_canBePerson_7 (by decide) (fun c4 => ?_) (fun c4 => ?_)
  · have h := (if_pos c4).symm.trans h
    refine V.iconst dX10_canBePerson_22 ki_0 ?_
    obtain rfl := Option.some.inj h
    exact V.ireturn dX10_canBePerson_23
  · have h := (if_neg c4).symm.trans h
    refine V.iload_n dX10_canBePerson_10 rfl rfl ?_
    refine V.iconst dX10_canBePerson_11 ki_5 ?_
    obtain ⟨p5, h6, h⟩ := bnd h
    have w7 := w_X10_isUpTo (g := g) (A := A) h6
    refine V.callSi (args := [LI v1, LI (5 : Int32)]) (st := []) w7.1 mk_X10_isUpTo w7.2 ml_RX10_107 sm_X10_isUpTo rfl (Nat.le_of_ble_eq_true rfl) (by decide) rfl (Nat.le_of_ble_eq_true rfl) dX10_canBePerson_12 ?_
    refine V.if_eq (tgt := 22) dX10_canBePerson_15 (by decide) (fun c8 => ?_) (fun c8 => ?_)
    · have h := (if_pos c8).symm.trans h
      refine V.iconst dX10_canBePerson_22 ki_0 ?_
      obtain rfl := Option.some.inj h
      exact V.ireturn dX10_canBePerson_23
    · have h := (if_neg c8).symm.trans h
      refine V.iconst dX10_canBePerson_18 ki_1 ?_
      refine V.goto (tgt := 23) dX10_canBePerson_19 (by decide) ?_
      obtain rfl := Option.some.inj h
      exact V.ireturn dX10_canBePerson_23
def f_X10_canBePerson (v0 : Int32) (v1 : Int32) : Option (Int32) := zd (b_X10_canBePerson v0 v1)
theorem w_X10_canBePerson {g : GG} {A : LH} {v0 : Int32} {v1 : Int32} {p : Int32} (h : f_X10_canBePerson v0 v1 = some p) : Ct g m_X10_canBePerson 1 [LI v0, LI v1] A (some (LI p)) A := by
  unfold f_X10_canBePerson at h
  obtain ⟨h, hz⟩ := zd_sp h
  exact ⟨wb_X10_canBePerson h, (RTz hz)⟩
def b_X0_init (A : LH) (v0 : Option Nat) (v1 : Int32) (v2 : Int32) (v3 : Int32) (v4 : Int32) (v5 : Int32) (v6 : Int32) (v7 : Option Nat) : Option (LH) :=
  (pZ A v0 0 0 v1).bind fun A1 => (pF A1 v0 0 1 (LI v2)).bind fun A3 => (pF A3 v0 0 2 (LI v3)).bind fun A5 => (pF A5 v0 0 3 (LI v4)).bind fun A7 => (pF A7 v0 0 4 (LI v5)).bind fun A9 => (pF A9 v0 0 5 (LI v6)).bind fun A11 => (pF A11 v0 0 6 (LR v7)).bind fun A13 => some A13
set_option maxRecDepth 4000 in
theorem wb_X0_init {g : GG} {n0 z0 : Nat} {A : LH} {v0 : Option Nat} {v1 : Int32} {v2 : Int32} {v3 : Int32} {v4 : Int32} {v5 : Int32} {v6 : Int32} {v7 : Option Nat} {p : LH} (ho : isO A v0 0 = true) (h : b_X0_init A v0 v1 v2 v3 v4 v5 v6 v7 = some p) : V g m_X0_init 1 n0 z0 none p A 0 [some (LR v0), some (LI v1), some (LI v2), some (LI v3), some (LI v4), some (LI v5), some (LI v6), some (LR v7)] [] := by
  unfold b_X0_init at h
  refine V.aload_n dX0_init_0 rfl rfl ?_
  refine V.objI ho ml_RX0_3 im_obj co_obj (by decide) (Nat.le_of_ble_eq_true rfl) dX0_init_1 ?_
  refine V.aload_n dX0_init_4 rfl rfl ?_
  refine V.iload_n dX0_init_5 rfl rfl ?_
  obtain ⟨A1, h2, h⟩ := bnd h
  refine V.putFF (pZ_F h2).1 (pZ_n (pZ_F h2).2) (pZ_f (pZ_F h2).2) rfl rfl rfl CF0 (Nat.le_of_ble_eq_true rfl) fl_RX0_9 dX0_init_6 ?_
  refine V.aload_n dX0_init_9 rfl rfl ?_
  refine V.iload_n dX0_init_10 rfl rfl ?_
  obtain ⟨A3, h4, h⟩ := bnd h
  refine V.putFF h4 rfl rfl rfl rfl rfl CF0 (Nat.le_of_ble_eq_true rfl) fl_RX0_15 dX0_init_11 ?_
  refine V.aload_n dX0_init_14 rfl rfl ?_
  refine V.iload_n dX0_init_15 rfl rfl ?_
  obtain ⟨A5, h6, h⟩ := bnd h
  refine V.putFF h6 rfl rfl rfl rfl rfl CF0 (Nat.le_of_ble_eq_true rfl) fl_RX0_19 dX0_init_16 ?_
  refine V.aload_n dX0_init_19 rfl rfl ?_
  refine V.iload dX0_init_20 rfl ?_
  obtain ⟨A7, h8, h⟩ := bnd h
  refine V.putFF h8 rfl rfl rfl rfl rfl CF0 (Nat.le_of_ble_eq_true rfl) fl_RX0_22 dX0_init_22 ?_
  refine V.aload_n dX0_init_25 rfl rfl ?_
  refine V.iload dX0_init_26 rfl ?_
  obtain ⟨A9, h10, h⟩ := bnd h
  refine V.putFF h10 rfl rfl rfl rfl rfl CF0 (Nat.le_of_ble_eq_true rfl) fl_RX0_25 dX0_init_28 ?_
  refine V.aload_n dX0_init_31 rfl rfl ?_
  refine V.iload dX0_init_32 rfl ?_
  obtain ⟨A11, h12, h⟩ := bnd h
  refine V.putFF h12 rfl rfl rfl rfl rfl CF0 (Nat.le_of_ble_eq_true rfl) fl_RX0_28 dX0_init_34 ?_
  refine V.aload_n dX0_init_37 rfl rfl ?_
  refine V.aload dX0_init_38 rfl ?_
  obtain ⟨A13, h14, h⟩ := bnd h
  refine V.putFF h14 (nrR _ rfl) (ftR _ rfl) rfl rfl rfl CF0 (Nat.le_of_ble_eq_true rfl) fl_RX0_31 dX0_init_40 ?_
  obtain rfl := Option.some.inj h
  exact V.return_ dX0_init_43
def f_X0_init (A : LH) (v0 : Option Nat) (v1 : Int32) (v2 : Int32) (v3 : Int32) (v4 : Int32) (v5 : Int32) (v6 : Int32) (v7 : Option Nat) : Option (LH) := if isO A v0 0 = true then b_X0_init A v0 v1 v2 v3 v4 v5 v6 v7 else none
theorem w_X0_init {g : GG} {A : LH} {v0 : Option Nat} {v1 : Int32} {v2 : Int32} {v3 : Int32} {v4 : Int32} {v5 : Int32} {v6 : Int32} {v7 : Option Nat} {p : LH} (h : f_X0_init A v0 v1 v2 v3 v4 v5 v6 v7 = some p) : Ct g m_X0_init 1 [LR v0, LI v1, LI v2, LI v3, LI v4, LI v5, LI v6, LR v7] A none p := by
  unfold f_X0_init at h
  obtain ⟨ho, h⟩ := ifN h
  exact ⟨wb_X0_init ho h, trivial⟩
theorem oo_X0_init {A : LH} {v0 : Option Nat} {v1 : Int32} {v2 : Int32} {v3 : Int32} {v4 : Int32} {v5 : Int32} {v6 : Int32} {v7 : Option Nat} {p : LH} (h : f_X0_init A v0 v1 v2 v3 v4 v5 v6 v7 = some p) : isO A v0 0 = true := by unfold f_X0_init at h; exact (ifN h).1
def b_X0_turned_16 (A : LH) (v0 : Option Nat) (s0 : Int32) (s1 : Option Nat) (s2 : Option Nat) : Option (Option Nat × LH) :=
  (gI A v0 0 1).bind fun x4 => (gI A v0 0 2).bind fun x6 => (gI A v0 0 3).bind fun x8 => (gI A v0 0 4).bind fun x10 => (gI A v0 0 5).bind fun x12 => (gR A v0 0 6).bind fun x14 => (f_X0_init A s1 s0 x4 x6 x8 x10 x12 x14).bind fun p16 => some (s2, p16)
set_option maxRecDepth 4000 in
theorem wb_X0_turned_16 {g : GG} {n0 z0 : Nat} {A : LH} {v0 : Option Nat} {s0 : Int32} {s1 : Option Nat} {s2 : Option Nat} {p : Option Nat × LH} (h : b_X0_turned_16 A v0 s0 s1 s2 = some p) : V g m_X0_turned 2 n0 z0 (some (LR p.1)) p.2 A 16 [some (LR v0)] [LI s0, LR s1, LR s2] := by
  unfold b_X0_turned_16 at h
  refine V.aload_n dX0_turned_16 rfl rfl ?_
  obtain ⟨x4, h5, h⟩ := bnd h
  refine V.getF (gI_F h5) CF0 (Nat.le_of_ble_eq_true rfl) fl_RX0_15 dX0_turned_17 ?_
  refine V.aload_n dX0_turned_20 rfl rfl ?_
  obtain ⟨x6, h7, h⟩ := bnd h
  refine V.getF (gI_F h7) CF0 (Nat.le_of_ble_eq_true rfl) fl_RX0_19 dX0_turned_21 ?_
  refine V.aload_n dX0_turned_24 rfl rfl ?_
  obtain ⟨x8, h9, h⟩ := bnd h
  refine V.getF (gI_F h9) CF0 (Nat.le_of_ble_eq_true rfl) fl_RX0_22 dX0_turned_25 ?_
  refine V.aload_n dX0_turned_28 rfl rfl ?_
  obtain ⟨x10, h11, h⟩ := bnd h
  refine V.getF (gI_F h11) CF0 (Nat.le_of_ble_eq_true rfl) fl_RX0_25 dX0_turned_29 ?_
  refine V.aload_n dX0_turned_32 rfl rfl ?_
  obtain ⟨x12, h13, h⟩ := bnd h
  refine V.getF (gI_F h13) CF0 (Nat.le_of_ble_eq_true rfl) fl_RX0_28 dX0_turned_33 ?_
  refine V.aload_n dX0_turned_36 rfl rfl ?_
  obtain ⟨x14, h15, h⟩ := bnd h
  refine V.getF (gR_F h15) CF0 (Nat.le_of_ble_eq_true rfl) fl_RX0_31 dX0_turned_37 ?_
  obtain ⟨p16, h17, h⟩ := bnd h
  have w18 := w_X0_init (g := g) h17
  refine V.callI (args := [LI s0, LI x4, LI x6, LI x8, LI x10, LI x12, LR x14]) (st := [LR s2]) w18.1 (oo_X0_init h17) mk_X0_init rfl ml_RX0_35 im_X0_init rfl rfl (Nat.le_of_ble_eq_true rfl) (by decide) rfl (Nat.le_of_ble_eq_true rfl) dX0_turned_40 ?_
  obtain rfl := Option.some.inj h
  exact V.areturn dX0_turned_43
def b_X0_turned (A : LH) (v0 : Option Nat) : Option (Option Nat × LH) :=
  (gI (al A (.inr (0, [LI 0, LI 0, LI 0, LI 0, LI 0, LI 0, LR none])) 7) v0 0 0).bind fun x1 => if x1 = 0 then b_X0_turned_16 (al A (.inr (0, [LI 0, LI 0, LI 0, LI 0, LI 0, LI 0, LR none])) 7) v0 (1 : Int32) (some (8 + hn A)) (some (8 + hn A)) else b_X0_turned_16 (al A (.inr (0, [LI 0, LI 0, LI 0, LI 0, LI 0, LI 0, LR none])) 7) v0 (0 : Int32) (some (8 + hn A)) (some (8 + hn A))
set_option maxRecDepth 4000 in
theorem wb_X0_turned {g : GG} {n0 z0 : Nat} {A : LH} {v0 : Option Nat} {p : Option Nat × LH} (h : b_X0_turned A v0 = some p) : V g m_X0_turned 2 n0 z0 (some (LR p.1)) p.2 A 0 [some (LR v0)] [] := by
  unfold b_X0_turned at h
  refine V.new CF0 okT0 cl_RX0_10 in_0 ii_0 (fs := [LI 0, LI 0, LI 0, LI 0, LI 0, LI 0, LR none]) rfl dX0_turned_0 ?_
  refine V.dup dX0_turned_3 rfl ?_
  refine V.aload_n dX0_turned_4 rfl rfl ?_
  obtain ⟨x1, h2, h⟩ := bnd h
  refine V.getF (gI_F h2) CF0 (Nat.le_of_ble_eq_true rfl) fl_RX0_9 dX0_turned_5 ?_
  refine V.if_ne (tgt := 15) dX0_turned_8 (by decide) (fun c3 => ?_) (fun c3 => ?_)
  · have h := (if_neg c3).symm.trans h
    refine V.iconst dX0_turned_15 ki_0 ?_
    refine V.weak [true] ?_
    exact wb_X0_turned_16 h
  · have h := (if_pos c3).symm.trans h
    refine V.iconst dX0_turned_11 ki_1 ?_
    refine V.goto (tgt := 16) dX0_turned_12 (by decide) ?_
    refine V.weak [true] ?_
    exact wb_X0_turned_16 h
def f_X0_turned (A : LH) (v0 : Option Nat) : Option (Option Nat × LH) := if isO A v0 0 = true then b_X0_turned A v0 else none
theorem w_X0_turned {g : GG} {A : LH} {v0 : Option Nat} {p : Option Nat × LH} (h : f_X0_turned A v0 = some p) : Ct g m_X0_turned 2 [LR v0] A (some (LR p.1)) p.2 := by
  unfold f_X0_turned at h
  obtain ⟨ho, h⟩ := ifN h
  exact ⟨wb_X0_turned h, (Or.inl ⟨_, rfl⟩)⟩
theorem oo_X0_turned {A : LH} {v0 : Option Nat} {p : Option Nat × LH} (h : f_X0_turned A v0 = some p) : isO A v0 0 = true := by unfold f_X0_turned at h; exact (ifN h).1
def b_X0_part (A : LH) (v0 : Option Nat) (v1 : Int32) : Option (Int32) :=
  if v1 = 0 then (gI A v0 0 0).bind fun x2 => if x2 = 0 then some (0 : Int32) else some (1 : Int32) else if v1 = 1 then (gI A v0 0 1).bind fun x6 => some x6 else if v1 = 2 then (gI A v0 0 2).bind fun x9 => some x9 else if v1 = 3 then (gI A v0 0 3).bind fun x12 => some x12 else if v1 = 4 then (gI A v0 0 4).bind fun x15 => some x15 else if v1 = 5 then (gI A v0 0 5).bind fun x18 => some x18 else if v1 = 6 then (gR A v0 0 6).bind fun x21 => (ln6 A x21).bind fun x23 => if x23 ≤ 0 then some (0 : Int32) else some (1 : Int32) else some (-1 : Int32)
set_option maxRecDepth 4000 in
theorem wb_X0_part {g : GG} {n0 z0 : Nat} {A : LH} {v0 : Option Nat} {v1 : Int32} {p : Int32} (h : b_X0_part A v0 v1 = some p) : V g m_X0_part 0 n0 z0 (some (LI p)) A A 0 [some (LR v0), some (LI v1)] [] := by
  unfold b_X0_part at h
  refine V.iload_n dX0_part_0 rfl rfl ?_
  by_cases c1 : v1 = 0
  · have h := (if_pos c1).symm.trans h
    refine V.tableIn (tgt := 44) (off := 43) dX0_part_1 (by rw [c1]; decide) (by rw [c1]; decide) (by rw [c1]; decide) (by decide) ?_
    refine V.aload_n dX0_part_44 rfl rfl ?_
    obtain ⟨x2, h3, h⟩ := bnd h
    refine V.getF (gI_F h3) CF0 (Nat.le_of_ble_eq_true rfl) fl_RX0_9 dX0_part_45 ?_
    refine V.if_eq (tgt := 55) dX0_part_48 (by decide) (fun c4 => ?_) (fun c4 => ?_)
    · have h := (if_pos c4).symm.trans h
      refine V.iconst dX0_part_55 ki_0 ?_
      obtain rfl := Option.some.inj h
      exact V.ireturn dX0_part_56
    · have h := (if_neg c4).symm.trans h
      refine V.iconst dX0_part_51 ki_1 ?_
      refine V.goto (tgt := 56) dX0_part_52 (by decide) ?_
      obtain rfl := Option.some.inj h
      exact V.ireturn dX0_part_56
  have h := (if_neg c1).symm.trans h
  by_cases c5 : v1 = 1
  · have h := (if_pos c5).symm.trans h
    refine V.tableIn (tgt := 57) (off := 56) dX0_part_1 (by rw [c5]; decide) (by rw [c5]; decide) (by rw [c5]; decide) (by decide) ?_
    refine V.aload_n dX0_part_57 rfl rfl ?_
    obtain ⟨x6, h7, h⟩ := bnd h
    refine V.getF (gI_F h7) CF0 (Nat.le_of_ble_eq_true rfl) fl_RX0_15 dX0_part_58 ?_
    obtain rfl := Option.some.inj h
    exact V.ireturn dX0_part_61
  have h := (if_neg c5).symm.trans h
  by_cases c8 : v1 = 2
  · have h := (if_pos c8).symm.trans h
    refine V.tableIn (tgt := 62) (off := 61) dX0_part_1 (by rw [c8]; decide) (by rw [c8]; decide) (by rw [c8]; decide) (by decide) ?_
    refine V.aload_n dX0_part_62 rfl rfl ?_
    obtain ⟨x9, h10, h⟩ := bnd h
    refine V.getF (gI_F h10) CF0 (Nat.le_of_ble_eq_true rfl) fl_RX0_19 dX0_part_63 ?_
    obtain rfl := Option.some.inj h
    exact V.ireturn dX0_part_66
  have h := (if_neg c8).symm.trans h
  by_cases c11 : v1 = 3
  · have h := (if_pos c11).symm.trans h
    refine V.tableIn (tgt := 67) (off := 66) dX0_part_1 (by rw [c11]; decide) (by rw [c11]; decide) (by rw [c11]; decide) (by decide) ?_
    refine V.aload_n dX0_part_67 rfl rfl ?_
    obtain ⟨x12, h13, h⟩ := bnd h
    refine V.getF (gI_F h13) CF0 (Nat.le_of_ble_eq_true rfl) fl_RX0_22 dX0_part_68 ?_
    obtain rfl := Option.some.inj h
    exact V.ireturn dX0_part_71
  have h := (if_neg c11).symm.trans h
  by_cases c14 : v1 = 4
  · have h := (if_pos c14).symm.trans h
    refine V.tableIn (tgt := 72) (off := 71) dX0_part_1 (by rw [c14]; decide) (by rw [c14]; decide) (by rw [c14]; decide) (by decide) ?_
    refine V.aload_n dX0_part_72 rfl rfl ?_
    obtain ⟨x15, h16, h⟩ := bnd h
    refine V.getF (gI_F h16) CF0 (Nat.le_of_ble_eq_true rfl) fl_RX0_25 dX0_part_73 ?_
    obtain rfl := Option.some.inj h
    exact V.ireturn dX0_part_76
  have h := (if_neg c14).symm.trans h
  by_cases c17 : v1 = 5
  · have h := (if_pos c17).symm.trans h
    refine V.tableIn (tgt := 77) (off := 76) dX0_part_1 (by rw [c17]; decide) (by rw [c17]; decide) (by rw [c17]; decide) (by decide) ?_
    refine V.aload_n dX0_part_77 rfl rfl ?_
    obtain ⟨x18, h19, h⟩ := bnd h
    refine V.getF (gI_F h19) CF0 (Nat.le_of_ble_eq_true rfl) fl_RX0_28 dX0_part_78 ?_
    obtain rfl := Option.some.inj h
    exact V.ireturn dX0_part_81
  have h := (if_neg c17).symm.trans h
  by_cases c20 : v1 = 6
  · have h := (if_pos c20).symm.trans h
    refine V.tableIn (tgt := 82) (off := 81) dX0_part_1 (by rw [c20]; decide) (by rw [c20]; decide) (by rw [c20]; decide) (by decide) ?_
    refine V.aload_n dX0_part_82 rfl rfl ?_
    obtain ⟨x21, h22, h⟩ := bnd h
    refine V.getF (gR_F h22) CF0 (Nat.le_of_ble_eq_true rfl) fl_RX0_31 dX0_part_83 ?_
    obtain ⟨x23, h24, h⟩ := bnd h
    refine V.alen (ln6_l h24) (ln6_t h24) dX0_part_86 ?_
    refine V.if_le (tgt := 94) dX0_part_87 (by decide) (fun c25 => ?_) (fun c25 => ?_)
    · have h := (if_pos c25).symm.trans h
      refine V.iconst dX0_part_94 ki_0 ?_
      obtain rfl := Option.some.inj h
      exact V.ireturn dX0_part_95
    · have h := (if_neg c25).symm.trans h
      refine V.iconst dX0_part_90 ki_1 ?_
      refine V.goto (tgt := 95) dX0_part_91 (by decide) ?_
      obtain rfl := Option.some.inj h
      exact V.ireturn dX0_part_95
  have h := (if_neg c20).symm.trans h
  refine V.tableOut (tgt := 96) dX0_part_1 (sw_out (n := 7) [0, 1, 2, 3, 4, 5, 6] (by decide) (List.forall_mem_cons.mpr ⟨c1, List.forall_mem_cons.mpr ⟨c5, List.forall_mem_cons.mpr ⟨c8, List.forall_mem_cons.mpr ⟨c11, List.forall_mem_cons.mpr ⟨c14, List.forall_mem_cons.mpr ⟨c17, List.forall_mem_cons.mpr ⟨c20, fun _ z => nomatch z⟩⟩⟩⟩⟩⟩⟩)) (by decide) ?_
  refine V.iconst dX0_part_96 ki_m1 ?_
  obtain rfl := Option.some.inj h
  exact V.ireturn dX0_part_97
def f_X0_part (A : LH) (v0 : Option Nat) (v1 : Int32) : Option (Int32) := if isO A v0 0 = true then b_X0_part A v0 v1 else none
theorem w_X0_part {g : GG} {A : LH} {v0 : Option Nat} {v1 : Int32} {p : Int32} (h : f_X0_part A v0 v1 = some p) : Ct g m_X0_part 0 [LR v0, LI v1] A (some (LI p)) A := by
  unfold f_X0_part at h
  obtain ⟨ho, h⟩ := ifN h
  exact ⟨wb_X0_part h, rfl⟩
theorem oo_X0_part {A : LH} {v0 : Option Nat} {v1 : Int32} {p : Int32} (h : f_X0_part A v0 v1 = some p) : isO A v0 0 = true := by unfold f_X0_part at h; exact (ifN h).1
def b_X0_step (v0 : Int32) (v1 : Int32) (v2 : Int32) : Option (Int32) :=
  some ((((v0 <<< ((11 : Int32) &&& 31)) ||| v1) <<< ((11 : Int32) &&& 31)) ||| v2)
set_option maxRecDepth 4000 in
theorem wb_X0_step {g : GG} {n0 z0 : Nat} {A : LH} {v0 : Int32} {v1 : Int32} {v2 : Int32} {p : Int32} (h : b_X0_step v0 v1 v2 = some p) : V g m_X0_step 0 n0 z0 (some (LI p)) A A 0 [some (LI v0), some (LI v1), some (LI v2)] [] := by
  unfold b_X0_step at h
  refine V.iload_n dX0_step_0 rfl rfl ?_
  refine V.bipush dX0_step_1 kb_11 ?_
  refine V.ishl dX0_step_3 ?_
  refine V.iload_n dX0_step_4 rfl rfl ?_
  refine V.ior dX0_step_5 ?_
  refine V.bipush dX0_step_6 kb_11 ?_
  refine V.ishl dX0_step_8 ?_
  refine V.iload_n dX0_step_9 rfl rfl ?_
  refine V.ior dX0_step_10 ?_
  obtain rfl := Option.some.inj h
  exact V.ireturn dX0_step_11
def f_X0_step (v0 : Int32) (v1 : Int32) (v2 : Int32) : Option (Int32) := b_X0_step v0 v1 v2
theorem w_X0_step {g : GG} {A : LH} {v0 : Int32} {v1 : Int32} {v2 : Int32} {p : Int32} (h : f_X0_step v0 v1 v2 = some p) : Ct g m_X0_step 0 [LI v0, LI v1, LI v2] A (some (LI p)) A := by
  unfold f_X0_step at h
  exact ⟨wb_X0_step h, rfl⟩
def b_X0_deedOf (v0 : Int32) : Option (Int32) :=
  some (ush v0 (22 : Int32))
set_option maxRecDepth 4000 in
theorem wb_X0_deedOf {g : GG} {n0 z0 : Nat} {A : LH} {v0 : Int32} {p : Int32} (h : b_X0_deedOf v0 = some p) : V g m_X0_deedOf 0 n0 z0 (some (LI p)) A A 0 [some (LI v0)] [] := by
  unfold b_X0_deedOf at h
  refine V.iload_n dX0_deedOf_0 rfl rfl ?_
  refine V.bipush dX0_deedOf_1 kb_22 ?_
  refine V.iushr dX0_deedOf_3 ?_
  obtain rfl := Option.some.inj h
  exact V.ireturn dX0_deedOf_4
def f_X0_deedOf (v0 : Int32) : Option (Int32) := b_X0_deedOf v0
theorem w_X0_deedOf {g : GG} {A : LH} {v0 : Int32} {p : Int32} (h : f_X0_deedOf v0 = some p) : Ct g m_X0_deedOf 0 [LI v0] A (some (LI p)) A := by
  unfold f_X0_deedOf at h
  exact ⟨wb_X0_deedOf h, rfl⟩
def b_X0_leftOf (v0 : Int32) : Option (Int32) :=
  some ((ush v0 (11 : Int32)) &&& (2047 : Int32))
set_option maxRecDepth 4000 in
theorem wb_X0_leftOf {g : GG} {n0 z0 : Nat} {A : LH} {v0 : Int32} {p : Int32} (h : b_X0_leftOf v0 = some p) : V g m_X0_leftOf 0 n0 z0 (some (LI p)) A A 0 [some (LI v0)] [] := by
  unfold b_X0_leftOf at h
  refine V.iload_n dX0_leftOf_0 rfl rfl ?_
  refine V.bipush dX0_leftOf_1 kb_11 ?_
  refine V.iushr dX0_leftOf_3 ?_
  refine V.sipush dX0_leftOf_4 ks_2047 ?_
  refine V.iand dX0_leftOf_7 ?_
  obtain rfl := Option.some.inj h
  exact V.ireturn dX0_leftOf_8
def f_X0_leftOf (v0 : Int32) : Option (Int32) := b_X0_leftOf v0
theorem w_X0_leftOf {g : GG} {A : LH} {v0 : Int32} {p : Int32} (h : f_X0_leftOf v0 = some p) : Ct g m_X0_leftOf 0 [LI v0] A (some (LI p)) A := by
  unfold f_X0_leftOf at h
  exact ⟨wb_X0_leftOf h, rfl⟩
def b_X0_rightOf (v0 : Int32) : Option (Int32) :=
  some (v0 &&& (2047 : Int32))
set_option maxRecDepth 4000 in
theorem wb_X0_rightOf {g : GG} {n0 z0 : Nat} {A : LH} {v0 : Int32} {p : Int32} (h : b_X0_rightOf v0 = some p) : V g m_X0_rightOf 0 n0 z0 (some (LI p)) A A 0 [some (LI v0)] [] := by
  unfold b_X0_rightOf at h
  refine V.iload_n dX0_rightOf_0 rfl rfl ?_
  refine V.sipush dX0_rightOf_1 ks_2047 ?_
  refine V.iand dX0_rightOf_4 ?_
  obtain rfl := Option.some.inj h
  exact V.ireturn dX0_rightOf_5
def f_X0_rightOf (v0 : Int32) : Option (Int32) := b_X0_rightOf v0
theorem w_X0_rightOf {g : GG} {A : LH} {v0 : Int32} {p : Int32} (h : f_X0_rightOf v0 = some p) : Ct g m_X0_rightOf 0 [LI v0] A (some (LI p)) A := by
  unfold f_X0_rightOf at h
  exact ⟨wb_X0_rightOf h, rfl⟩
def b_X6_init (A : LH) (v0 : Option Nat) : Option (LH) :=
  (nI_ A 0 (600 : Int32)).bind fun A1 => (pF A1 v0 6 0 (LR (some (8 + hn A)))).bind fun A3 => (pF A3 v0 6 1 (LI (0 : Int32))).bind fun A5 => some A5
set_option maxRecDepth 4000 in
theorem wb_X6_init {g : GG} {n0 z0 : Nat} {A : LH} {v0 : Option Nat} {p : LH} (ho : isO A v0 6 = true) (h : b_X6_init A v0 = some p) : V g m_X6_init 1 n0 z0 none p A 0 [some (LR v0)] [] := by
  unfold b_X6_init at h
  refine V.aload_n dX6_init_0 rfl rfl ?_
  refine V.objI ho ml_RX6_3 im_obj co_obj (by decide) (Nat.le_of_ble_eq_true rfl) dX6_init_1 ?_
  refine V.aload_n dX6_init_4 rfl rfl ?_
  refine V.sipush dX6_init_5 ks_600 ?_
  obtain ⟨A1, h2, h⟩ := bnd h
  refine V.newa (ty := .int) h2 rfl rfl rfl (fun _ z => z) (by decide) ac_0 dX6_init_8 ?_
  obtain ⟨A3, h4, h⟩ := bnd h
  refine V.putFF h4 (nrR _ rfl) (ftR _ rfl) rfl rfl rfl CF6 (Nat.le_of_ble_eq_true rfl) fl_RX6_9 dX6_init_10 ?_
  refine V.aload_n dX6_init_13 rfl rfl ?_
  refine V.iconst dX6_init_14 ki_0 ?_
  obtain ⟨A5, h6, h⟩ := bnd h
  refine V.putF h6 rfl rfl rfl CF6 (Nat.le_of_ble_eq_true rfl) fl_RX6_15 dX6_init_15 ?_
  obtain rfl := Option.some.inj h
  exact V.return_ dX6_init_18
def f_X6_init (A : LH) (v0 : Option Nat) : Option (LH) := if isO A v0 6 = true then b_X6_init A v0 else none
theorem w_X6_init {g : GG} {A : LH} {v0 : Option Nat} {p : LH} (h : f_X6_init A v0 = some p) : Ct g m_X6_init 1 [LR v0] A none p := by
  unfold f_X6_init at h
  obtain ⟨ho, h⟩ := ifN h
  exact ⟨wb_X6_init ho h, trivial⟩
theorem oo_X6_init {A : LH} {v0 : Option Nat} {p : LH} (h : f_X6_init A v0 = some p) : isO A v0 6 = true := by unfold f_X6_init at h; exact (ifN h).1
def b_X6_put_3 (N : Nat) (k3 : LH → Option Nat → Int32 → Int32 → Option (LH)) (A : LH) (v0 : Option Nat) (v1 : Int32) (v2 : Int32) : Option (LH) :=
  if v2 < 0 then some A else (gI A v0 6 1).bind fun x2 => (gR A v0 6 0).bind fun x4 => (ln6 A x4).bind fun x6 => if x6 ≤ x2 then k3 A v0 v1 (v2 + (-8 : Int32)) else (gR A v0 6 0).bind fun x9 => (gI A v0 6 1).bind fun x11 => (sI A x9 0 x11 ((ush v1 v2) &&& (255 : Int32))).bind fun A13 => (gI A13 v0 6 1).bind fun x15 => (pF A13 v0 6 1 (LI (x15 + (1 : Int32)))).bind fun A17 => k3 A17 v0 v1 (v2 + (-8 : Int32))
set_option maxRecDepth 4000 in
theorem wb_X6_put_3 {g : GG} {n0 z0 : Nat} (N : Nat) {k3 : LH → Option Nat → Int32 → Int32 → Option (LH)} {A : LH} {v0 : Option Nat} {v1 : Int32} {v2 : Int32} {p : LH} (hk3 : ∀ {A : LH} {v0 : Option Nat} {v1 : Int32} {v2 : Int32} {p : LH}, k3 A v0 v1 v2 = some p → V g m_X6_put 0 n0 z0 none p A 3 [some (LR v0), some (LI v1), some (LI v2)] []) (h : b_X6_put_3 N k3 A v0 v1 v2 = some p) : V g m_X6_put 0 n0 z0 none p A 3 [some (LR v0), some (LI v1), some (LI v2)] [] := by
  unfold b_X6_put_3 at h
  refine V.iload_n dX6_put_3 rfl rfl ?_
  refine V.if_lt (tgt := 51) dX6_put_4 (by decide) (fun c1 => ?_) (fun c1 => ?_)
  · have h := (if_pos c1).symm.trans h
    obtain rfl := Option.some.inj h
    exact V.return_ dX6_put_51
  · have h := (if_neg c1).symm.trans h
    refine V.aload_n dX6_put_7 rfl rfl ?_
    obtain ⟨x2, h3, h⟩ := bnd h
    refine V.getF (gI_F h3) CF6 (Nat.le_of_ble_eq_true rfl) fl_RX6_15 dX6_put_8 ?_
    refine V.aload_n dX6_put_11 rfl rfl ?_
    obtain ⟨x4, h5, h⟩ := bnd h
    refine V.getF (gR_F h5) CF6 (Nat.le_of_ble_eq_true rfl) fl_RX6_9 dX6_put_12 ?_
    obtain ⟨x6, h7, h⟩ := bnd h
    refine V.alen (ln6_l h7) (ln6_t h7) dX6_put_15 ?_
    refine V.icmp_ge (tgt := 45) dX6_put_16 (by decide) (fun c8 => ?_) (fun c8 => ?_)
    · have h := (if_pos c8).symm.trans h
      refine V.iinc (ls' := [some (LR v0), some (LI v1), some (LI (v2 + (-8 : Int32)))]) dX6_put_45 rfl ki_m8 (by decide) rfl rfl ?_
      refine V.goto (tgt := 3) dX6_put_48 (by decide) ?_
      refine V.weak [true, true, true] ?_
      exact hk3 h
    · have h := (if_neg c8).symm.trans h
      refine V.aload_n dX6_put_19 rfl rfl ?_
      obtain ⟨x9, h10, h⟩ := bnd h
      refine V.getF (gR_F h10) CF6 (Nat.le_of_ble_eq_true rfl) fl_RX6_9 dX6_put_20 ?_
      refine V.aload_n dX6_put_23 rfl rfl ?_
      obtain ⟨x11, h12, h⟩ := bnd h
      refine V.getF (gI_F h12) CF6 (Nat.le_of_ble_eq_true rfl) fl_RX6_15 dX6_put_24 ?_
      refine V.iload_n dX6_put_27 rfl rfl ?_
      refine V.iload_n dX6_put_28 rfl rfl ?_
      refine V.iushr dX6_put_29 ?_
      refine V.sipush dX6_put_30 ks_255 ?_
      refine V.iand dX6_put_33 ?_
      obtain ⟨A13, h14, h⟩ := bnd h
      refine V.iast h14 dX6_put_34 ?_
      refine V.aload_n dX6_put_35 rfl rfl ?_
      refine V.dup dX6_put_36 rfl ?_
      obtain ⟨x15, h16, h⟩ := bnd h
      refine V.getF (gI_F h16) CF6 (Nat.le_of_ble_eq_true rfl) fl_RX6_15 dX6_put_37 ?_
      refine V.iconst dX6_put_40 ki_1 ?_
      refine V.iadd dX6_put_41 ?_
      obtain ⟨A17, h18, h⟩ := bnd h
      refine V.putF h18 rfl rfl rfl CF6 (Nat.le_of_ble_eq_true rfl) fl_RX6_15 dX6_put_42 ?_
      refine V.iinc (ls' := [some (LR v0), some (LI v1), some (LI (v2 + (-8 : Int32)))]) dX6_put_45 rfl ki_m8 (by decide) rfl rfl ?_
      refine V.goto (tgt := 3) dX6_put_48 (by decide) ?_
      refine V.weak [true, true, true] ?_
      exact hk3 h
def l_X6_put_3 (N : Nat) : Nat → LH → Option Nat → Int32 → Int32 → Option (LH)
  | 0, _, _, _, _ => none
  | n + 1, A, v0, v1, v2 => b_X6_put_3 N (l_X6_put_3 N n) A v0 v1 v2
theorem wl_X6_put_3 {g : GG} {n0 z0 : Nat} (N : Nat) : ∀ (n : Nat) {A : LH} {v0 : Option Nat} {v1 : Int32} {v2 : Int32} {p : LH}, l_X6_put_3 N n A v0 v1 v2 = some p → V g m_X6_put 0 n0 z0 none p A 3 [some (LR v0), some (LI v1), some (LI v2)] []
  | 0, _, _, _, _, _, h => nomatch h
  | n + 1, _, _, _, _, _, h => wb_X6_put_3 N (wl_X6_put_3 N n) h
def b_X6_put (N : Nat) (A : LH) (v0 : Option Nat) (v1 : Int32) : Option (LH) :=
  l_X6_put_3 N N A v0 v1 (24 : Int32)
set_option maxRecDepth 4000 in
theorem wb_X6_put {g : GG} {n0 z0 : Nat} (N : Nat) {A : LH} {v0 : Option Nat} {v1 : Int32} {p : LH} (h : b_X6_put N A v0 v1 = some p) : V g m_X6_put 0 n0 z0 none p A 0 [some (LR v0), some (LI v1)] [] := by
  unfold b_X6_put at h
  refine V.bipush dX6_put_0 kb_24 ?_
  refine V.istore_n (ls' := [some (LR v0), some (LI v1), some (LI (24 : Int32))]) dX6_put_2 rfl (by decide) rfl rfl ?_
  refine V.weak [true, true, true] ?_
  exact wl_X6_put_3 N N h
def f_X6_put (N : Nat) (A : LH) (v0 : Option Nat) (v1 : Int32) : Option (LH) := if isO A v0 6 = true then b_X6_put N A v0 v1 else none
theorem w_X6_put {g : GG} (N : Nat) {A : LH} {v0 : Option Nat} {v1 : Int32} {p : LH} (h : f_X6_put N A v0 v1 = some p) : Ct g m_X6_put 0 [LR v0, LI v1] A none p := by
  unfold f_X6_put at h
  obtain ⟨ho, h⟩ := ifN h
  exact ⟨wb_X6_put N h, trivial⟩
theorem oo_X6_put {N : Nat} {A : LH} {v0 : Option Nat} {v1 : Int32} {p : LH} (h : f_X6_put N A v0 v1 = some p) : isO A v0 6 = true := by unfold f_X6_put at h; exact (ifN h).1
def b_X6_at (A : LH) (v0 : Option Nat) (v1 : Int32) : Option (Int32) :=
  if v1 < 0 then some (-1 : Int32) else (gI A v0 6 1).bind fun x2 => if x2 ≤ v1 then some (-1 : Int32) else (gR A v0 6 0).bind fun x5 => (ln6 A x5).bind fun x7 => if x7 ≤ v1 then some (-1 : Int32) else (gR A v0 6 0).bind fun x10 => (aI A x10 0 v1).bind fun x12 => some x12
set_option maxRecDepth 4000 in
theorem wb_X6_at {g : GG} {n0 z0 : Nat} {A : LH} {v0 : Option Nat} {v1 : Int32} {p : Int32} (h : b_X6_at A v0 v1 = some p) : V g m_X6_at 0 n0 z0 (some (LI p)) A A 0 [some (LR v0), some (LI v1)] [] := by
  unfold b_X6_at at h
  refine V.iload_n dX6_at_0 rfl rfl ?_
  refine V.if_lt (tgt := 30) dX6_at_1 (by decide) (fun c1 => ?_) (fun c1 => ?_)
  · have h := (if_pos c1).symm.trans h
    refine V.iconst dX6_at_30 ki_m1 ?_
    obtain rfl := Option.some.inj h
    exact V.ireturn dX6_at_31
  · have h := (if_neg c1).symm.trans h
    refine V.iload_n dX6_at_4 rfl rfl ?_
    refine V.aload_n dX6_at_5 rfl rfl ?_
    obtain ⟨x2, h3, h⟩ := bnd h
    refine V.getF (gI_F h3) CF6 (Nat.le_of_ble_eq_true rfl) fl_RX6_15 dX6_at_6 ?_
    refine V.icmp_ge (tgt := 30) dX6_at_9 (by decide) (fun c4 => ?_) (fun c4 => ?_)
    · have h := (if_pos c4).symm.trans h
      refine V.iconst dX6_at_30 ki_m1 ?_
      obtain rfl := Option.some.inj h
      exact V.ireturn dX6_at_31
    · have h := (if_neg c4).symm.trans h
      refine V.iload_n dX6_at_12 rfl rfl ?_
      refine V.aload_n dX6_at_13 rfl rfl ?_
      obtain ⟨x5, h6, h⟩ := bnd h
      refine V.getF (gR_F h6) CF6 (Nat.le_of_ble_eq_true rfl) fl_RX6_9 dX6_at_14 ?_
      obtain ⟨x7, h8, h⟩ := bnd h
      refine V.alen (ln6_l h8) (ln6_t h8) dX6_at_17 ?_
      refine V.icmp_ge (tgt := 30) dX6_at_18 (by decide) (fun c9 => ?_) (fun c9 => ?_)
      · have h := (if_pos c9).symm.trans h
        refine V.iconst dX6_at_30 ki_m1 ?_
        obtain rfl := Option.some.inj h
        exact V.ireturn dX6_at_31
      · have h := (if_neg c9).symm.trans h
        refine V.aload_n dX6_at_21 rfl rfl ?_
        obtain ⟨x10, h11, h⟩ := bnd h
        refine V.getF (gR_F h11) CF6 (Nat.le_of_ble_eq_true rfl) fl_RX6_9 dX6_at_22 ?_
        refine V.iload_n dX6_at_25 rfl rfl ?_
        obtain ⟨x12, h13, h⟩ := bnd h
        refine V.iald h13 dX6_at_26 ?_
        refine V.goto (tgt := 31) dX6_at_27 (by decide) ?_
        obtain rfl := Option.some.inj h
        exact V.ireturn dX6_at_31
def f_X6_at (A : LH) (v0 : Option Nat) (v1 : Int32) : Option (Int32) := if isO A v0 6 = true then b_X6_at A v0 v1 else none
theorem w_X6_at {g : GG} {A : LH} {v0 : Option Nat} {v1 : Int32} {p : Int32} (h : f_X6_at A v0 v1 = some p) : Ct g m_X6_at 0 [LR v0, LI v1] A (some (LI p)) A := by
  unfold f_X6_at at h
  obtain ⟨ho, h⟩ := ifN h
  exact ⟨wb_X6_at h, rfl⟩
theorem oo_X6_at {A : LH} {v0 : Option Nat} {v1 : Int32} {p : Int32} (h : f_X6_at A v0 v1 = some p) : isO A v0 6 = true := by unfold f_X6_at at h; exact (ifN h).1
def b_X5_init (A : LH) (v0 : Option Nat) (v1 : Int32) (v2 : Int32) : Option (LH) :=
  (pF A v0 5 0 (LI v1)).bind fun A1 => (pF A1 v0 5 1 (LI v2)).bind fun A3 => (nI_ A3 0 (mmx (0 : Int32) (v1 * v2))).bind fun A5 => (pF A5 v0 5 2 (LR (some (8 + hn A3)))).bind fun A7 => (pF A7 v0 5 3 (LI (0 : Int32))).bind fun A9 => some A9
set_option maxRecDepth 4000 in
theorem wb_X5_init {g : GG} {n0 z0 : Nat} {A : LH} {v0 : Option Nat} {v1 : Int32} {v2 : Int32} {p : LH} (ho : isO A v0 5 = true) (h : b_X5_init A v0 v1 v2 = some p) : V g m_X5_init 1 n0 z0 none p A 0 [some (LR v0), some (LI v1), some (LI v2)] [] := by
  unfold b_X5_init at h
  refine V.aload_n dX5_init_0 rfl rfl ?_
  refine V.objI ho ml_RX5_3 im_obj co_obj (by decide) (Nat.le_of_ble_eq_true rfl) dX5_init_1 ?_
  refine V.aload_n dX5_init_4 rfl rfl ?_
  refine V.iload_n dX5_init_5 rfl rfl ?_
  obtain ⟨A1, h2, h⟩ := bnd h
  refine V.putFF h2 rfl rfl rfl rfl rfl CF5 (Nat.le_of_ble_eq_true rfl) fl_RX5_9 dX5_init_6 ?_
  refine V.aload_n dX5_init_9 rfl rfl ?_
  refine V.iload_n dX5_init_10 rfl rfl ?_
  obtain ⟨A3, h4, h⟩ := bnd h
  refine V.putFF h4 rfl rfl rfl rfl rfl CF5 (Nat.le_of_ble_eq_true rfl) fl_RX5_15 dX5_init_11 ?_
  refine V.aload_n dX5_init_14 rfl rfl ?_
  refine V.iconst dX5_init_15 ki_0 ?_
  refine V.iload_n dX5_init_16 rfl rfl ?_
  refine V.iload_n dX5_init_17 rfl rfl ?_
  refine V.imul dX5_init_18 ?_
  refine V.mmx ml_RX5_18 (by decide) (Nat.le_of_ble_eq_true rfl) dX5_init_19 ?_
  obtain ⟨A5, h6, h⟩ := bnd h
  refine V.newa (ty := .int) h6 rfl rfl rfl (fun _ z => z) (by decide) ac_0 dX5_init_22 ?_
  obtain ⟨A7, h8, h⟩ := bnd h
  refine V.putFF h8 (nrR _ rfl) (ftR _ rfl) rfl rfl rfl CF5 (Nat.le_of_ble_eq_true rfl) fl_RX5_24 dX5_init_24 ?_
  refine V.aload_n dX5_init_27 rfl rfl ?_
  refine V.iconst dX5_init_28 ki_0 ?_
  obtain ⟨A9, h10, h⟩ := bnd h
  refine V.putF h10 rfl rfl rfl CF5 (Nat.le_of_ble_eq_true rfl) fl_RX5_28 dX5_init_29 ?_
  obtain rfl := Option.some.inj h
  exact V.return_ dX5_init_32
def f_X5_init (A : LH) (v0 : Option Nat) (v1 : Int32) (v2 : Int32) : Option (LH) := if isO A v0 5 = true then b_X5_init A v0 v1 v2 else none
theorem w_X5_init {g : GG} {A : LH} {v0 : Option Nat} {v1 : Int32} {v2 : Int32} {p : LH} (h : f_X5_init A v0 v1 v2 = some p) : Ct g m_X5_init 1 [LR v0, LI v1, LI v2] A none p := by
  unfold f_X5_init at h
  obtain ⟨ho, h⟩ := ifN h
  exact ⟨wb_X5_init ho h, trivial⟩
theorem oo_X5_init {A : LH} {v0 : Option Nat} {v1 : Int32} {v2 : Int32} {p : LH} (h : f_X5_init A v0 v1 v2 = some p) : isO A v0 5 = true := by unfold f_X5_init at h; exact (ifN h).1
def b_X5_has (A : LH) (v0 : Option Nat) (v1 : Int32) : Option (Int32) :=
  (gI A v0 5 3).bind fun x1 => (f_X10_isIn v1 x1).bind fun p3 => some p3
set_option maxRecDepth 4000 in
theorem wb_X5_has {g : GG} {n0 z0 : Nat} {A : LH} {v0 : Option Nat} {v1 : Int32} {p : Int32} (h : b_X5_has A v0 v1 = some p) : V g m_X5_has 1 n0 z0 (some (LI p)) A A 0 [some (LR v0), some (LI v1)] [] := by
  unfold b_X5_has at h
  refine V.iload_n dX5_has_0 rfl rfl ?_
  refine V.aload_n dX5_has_1 rfl rfl ?_
  obtain ⟨x1, h2, h⟩ := bnd h
  refine V.getF (gI_F h2) CF5 (Nat.le_of_ble_eq_true rfl) fl_RX5_28 dX5_has_2 ?_
  obtain ⟨p3, h4, h⟩ := bnd h
  have w5 := w_X10_isIn (g := g) (A := A) h4
  refine V.callSNi (args := [LI v1, LI x1]) (st := []) w5.1 mk_X10_isIn w5.2 ml_RX5_31 sm_X10_isIn rfl (Nat.le_of_ble_eq_true rfl) (by decide) rfl (Nat.le_of_ble_eq_true rfl) dX5_has_5 ?_
  obtain rfl := Option.some.inj h
  exact V.ireturn dX5_has_8
def f_X5_has (A : LH) (v0 : Option Nat) (v1 : Int32) : Option (Int32) := if isO A v0 5 = true then zd (b_X5_has A v0 v1) else none
theorem w_X5_has {g : GG} {A : LH} {v0 : Option Nat} {v1 : Int32} {p : Int32} (h : f_X5_has A v0 v1 = some p) : Ct g m_X5_has 1 [LR v0, LI v1] A (some (LI p)) A := by
  unfold f_X5_has at h
  obtain ⟨ho, h⟩ := ifN h
  obtain ⟨h, hz⟩ := zd_sp h
  exact ⟨wb_X5_has h, (RTz hz)⟩
theorem oo_X5_has {A : LH} {v0 : Option Nat} {v1 : Int32} {p : Int32} (h : f_X5_has A v0 v1 = some p) : isO A v0 5 = true := by unfold f_X5_has at h; exact (ifN h).1
def b_X5_addRow (A : LH) (v0 : Option Nat) : Option (Int32 × LH) :=
  (gI A v0 5 3).bind fun x1 => (gI A v0 5 1).bind fun x3 => if x1 < x3 then (gI A v0 5 3).bind fun x6 => (pF A v0 5 3 (LI (x6 + (1 : Int32)))).bind fun A8 => (gI A8 v0 5 3).bind fun x10 => some ((x10 - (1 : Int32)), A8) else some ((-1 : Int32), A)
set_option maxRecDepth 4000 in
theorem wb_X5_addRow {g : GG} {n0 z0 : Nat} {A : LH} {v0 : Option Nat} {p : Int32 × LH} (h : b_X5_addRow A v0 = some p) : V g m_X5_addRow 0 n0 z0 (some (LI p.1)) p.2 A 0 [some (LR v0)] [] := by
  unfold b_X5_addRow at h
  refine V.aload_n dX5_addRow_0 rfl rfl ?_
  obtain ⟨x1, h2, h⟩ := bnd h
  refine V.getF (gI_F h2) CF5 (Nat.le_of_ble_eq_true rfl) fl_RX5_28 dX5_addRow_1 ?_
  refine V.aload_n dX5_addRow_4 rfl rfl ?_
  obtain ⟨x3, h4, h⟩ := bnd h
  refine V.getF (gI_F h4) CF5 (Nat.le_of_ble_eq_true rfl) fl_RX5_15 dX5_addRow_5 ?_
  refine V.icmp_lt (tgt := 13) dX5_addRow_8 (by decide) (fun c5 => ?_) (fun c5 => ?_)
  · have h := (if_pos c5).symm.trans h
    refine V.aload_n dX5_addRow_13 rfl rfl ?_
    refine V.dup dX5_addRow_14 rfl ?_
    obtain ⟨x6, h7, h⟩ := bnd h
    refine V.getF (gI_F h7) CF5 (Nat.le_of_ble_eq_true rfl) fl_RX5_28 dX5_addRow_15 ?_
    refine V.iconst dX5_addRow_18 ki_1 ?_
    refine V.iadd dX5_addRow_19 ?_
    obtain ⟨A8, h9, h⟩ := bnd h
    refine V.putF h9 rfl rfl rfl CF5 (Nat.le_of_ble_eq_true rfl) fl_RX5_28 dX5_addRow_20 ?_
    refine V.aload_n dX5_addRow_23 rfl rfl ?_
    obtain ⟨x10, h11, h⟩ := bnd h
    refine V.getF (gI_F h11) CF5 (Nat.le_of_ble_eq_true rfl) fl_RX5_28 dX5_addRow_24 ?_
    refine V.iconst dX5_addRow_27 ki_1 ?_
    refine V.isub dX5_addRow_28 ?_
    obtain rfl := Option.some.inj h
    exact V.ireturn dX5_addRow_29
  · have h := (if_neg c5).symm.trans h
    refine V.iconst dX5_addRow_11 ki_m1 ?_
    obtain rfl := Option.some.inj h
    exact V.ireturn dX5_addRow_12
def f_X5_addRow (A : LH) (v0 : Option Nat) : Option (Int32 × LH) := if isO A v0 5 = true then b_X5_addRow A v0 else none
theorem w_X5_addRow {g : GG} {A : LH} {v0 : Option Nat} {p : Int32 × LH} (h : f_X5_addRow A v0 = some p) : Ct g m_X5_addRow 0 [LR v0] A (some (LI p.1)) p.2 := by
  unfold f_X5_addRow at h
  obtain ⟨ho, h⟩ := ifN h
  exact ⟨wb_X5_addRow h, rfl⟩
theorem oo_X5_addRow {A : LH} {v0 : Option Nat} {p : Int32 × LH} (h : f_X5_addRow A v0 = some p) : isO A v0 5 = true := by unfold f_X5_addRow at h; exact (ifN h).1
def b_X5_get (A : LH) (v0 : Option Nat) (v1 : Int32) (v2 : Int32) : Option (Int32) :=
  (f_X5_has A v0 v1).bind fun p1 => if p1 = 0 then some (-1 : Int32) else (gI A v0 5 0).bind fun x5 => (f_X10_isIn v2 x5).bind fun p7 => if p7 = 0 then some (-1 : Int32) else (gR A v0 5 2).bind fun x11 => (gI A v0 5 0).bind fun x13 => (aI A x11 0 ((v1 * x13) + v2)).bind fun x15 => some x15
set_option maxRecDepth 4000 in
theorem wb_X5_get {g : GG} {n0 z0 : Nat} {A : LH} {v0 : Option Nat} {v1 : Int32} {v2 : Int32} {p : Int32} (h : b_X5_get A v0 v1 v2 = some p) : V g m_X5_get 2 n0 z0 (some (LI p)) A A 0 [some (LR v0), some (LI v1), some (LI v2)] [] := by
  unfold b_X5_get at h
  refine V.aload_n dX5_get_0 rfl rfl ?_
  refine V.iload_n dX5_get_1 rfl rfl ?_
  obtain ⟨p1, h2, h⟩ := bnd h
  have w3 := w_X5_has (g := g) h2
  refine V.callVi (args := [LI v1]) (st := []) w3.1 (oo_X5_has h2) mk_X5_has w3.2 vc_5 ml_RX5_35 im_X5_has se_X5_has rfl (Nat.le_of_ble_eq_true rfl) (by decide) rfl (Nat.le_of_ble_eq_true rfl) dX5_get_2 ?_
  refine V.if_eq (tgt := 35) dX5_get_5 (by decide) (fun c4 => ?_) (fun c4 => ?_)
  · have h := (if_pos c4).symm.trans h
    refine V.iconst dX5_get_35 ki_m1 ?_
    obtain rfl := Option.some.inj h
    exact V.ireturn dX5_get_36
  · have h := (if_neg c4).symm.trans h
    refine V.iload_n dX5_get_8 rfl rfl ?_
    refine V.aload_n dX5_get_9 rfl rfl ?_
    obtain ⟨x5, h6, h⟩ := bnd h
    refine V.getF (gI_F h6) CF5 (Nat.le_of_ble_eq_true rfl) fl_RX5_9 dX5_get_10 ?_
    obtain ⟨p7, h8, h⟩ := bnd h
    have w9 := w_X10_isIn (g := g) (A := A) h8
    refine V.callSNi (args := [LI v2, LI x5]) (st := []) w9.1 mk_X10_isIn w9.2 ml_RX5_31 sm_X10_isIn rfl (Nat.le_of_ble_eq_true rfl) (by decide) rfl (Nat.le_of_ble_eq_true rfl) dX5_get_13 ?_
    refine V.if_eq (tgt := 35) dX5_get_16 (by decide) (fun c10 => ?_) (fun c10 => ?_)
    · have h := (if_pos c10).symm.trans h
      refine V.iconst dX5_get_35 ki_m1 ?_
      obtain rfl := Option.some.inj h
      exact V.ireturn dX5_get_36
    · have h := (if_neg c10).symm.trans h
      refine V.aload_n dX5_get_19 rfl rfl ?_
      obtain ⟨x11, h12, h⟩ := bnd h
      refine V.getF (gR_F h12) CF5 (Nat.le_of_ble_eq_true rfl) fl_RX5_24 dX5_get_20 ?_
      refine V.iload_n dX5_get_23 rfl rfl ?_
      refine V.aload_n dX5_get_24 rfl rfl ?_
      obtain ⟨x13, h14, h⟩ := bnd h
      refine V.getF (gI_F h14) CF5 (Nat.le_of_ble_eq_true rfl) fl_RX5_9 dX5_get_25 ?_
      refine V.imul dX5_get_28 ?_
      refine V.iload_n dX5_get_29 rfl rfl ?_
      refine V.iadd dX5_get_30 ?_
      obtain ⟨x15, h16, h⟩ := bnd h
      refine V.iald h16 dX5_get_31 ?_
      refine V.goto (tgt := 36) dX5_get_32 (by decide) ?_
      obtain rfl := Option.some.inj h
      exact V.ireturn dX5_get_36
def f_X5_get (A : LH) (v0 : Option Nat) (v1 : Int32) (v2 : Int32) : Option (Int32) := if isO A v0 5 = true then b_X5_get A v0 v1 v2 else none
theorem w_X5_get {g : GG} {A : LH} {v0 : Option Nat} {v1 : Int32} {v2 : Int32} {p : Int32} (h : f_X5_get A v0 v1 v2 = some p) : Ct g m_X5_get 2 [LR v0, LI v1, LI v2] A (some (LI p)) A := by
  unfold f_X5_get at h
  obtain ⟨ho, h⟩ := ifN h
  exact ⟨wb_X5_get h, rfl⟩
theorem oo_X5_get {A : LH} {v0 : Option Nat} {v1 : Int32} {v2 : Int32} {p : Int32} (h : f_X5_get A v0 v1 v2 = some p) : isO A v0 5 = true := by unfold f_X5_get at h; exact (ifN h).1
def b_X5_set (A : LH) (v0 : Option Nat) (v1 : Int32) (v2 : Int32) (v3 : Int32) : Option (LH) :=
  (f_X5_has A v0 v1).bind fun p1 => if p1 = 0 then some A else (gI A v0 5 0).bind fun x5 => (f_X10_isIn v2 x5).bind fun p7 => if p7 = 0 then some A else (gR A v0 5 2).bind fun x11 => (gI A v0 5 0).bind fun x13 => (sI A x11 0 ((v1 * x13) + v2) v3).bind fun A15 => some A15
set_option maxRecDepth 4000 in
theorem wb_X5_set {g : GG} {n0 z0 : Nat} {A : LH} {v0 : Option Nat} {v1 : Int32} {v2 : Int32} {v3 : Int32} {p : LH} (h : b_X5_set A v0 v1 v2 v3 = some p) : V g m_X5_set 2 n0 z0 none p A 0 [some (LR v0), some (LI v1), some (LI v2), some (LI v3)] [] := by
  unfold b_X5_set at h
  refine V.aload_n dX5_set_0 rfl rfl ?_
  refine V.iload_n dX5_set_1 rfl rfl ?_
  obtain ⟨p1, h2, h⟩ := bnd h
  have w3 := w_X5_has (g := g) h2
  refine V.callVi (args := [LI v1]) (st := []) w3.1 (oo_X5_has h2) mk_X5_has w3.2 vc_5 ml_RX5_35 im_X5_has se_X5_has rfl (Nat.le_of_ble_eq_true rfl) (by decide) rfl (Nat.le_of_ble_eq_true rfl) dX5_set_2 ?_
  refine V.if_eq (tgt := 33) dX5_set_5 (by decide) (fun c4 => ?_) (fun c4 => ?_)
  · have h := (if_pos c4).symm.trans h
    obtain rfl := Option.some.inj h
    exact V.return_ dX5_set_33
  · have h := (if_neg c4).symm.trans h
    refine V.iload_n dX5_set_8 rfl rfl ?_
    refine V.aload_n dX5_set_9 rfl rfl ?_
    obtain ⟨x5, h6, h⟩ := bnd h
    refine V.getF (gI_F h6) CF5 (Nat.le_of_ble_eq_true rfl) fl_RX5_9 dX5_set_10 ?_
    obtain ⟨p7, h8, h⟩ := bnd h
    have w9 := w_X10_isIn (g := g) (A := A) h8
    refine V.callSNi (args := [LI v2, LI x5]) (st := []) w9.1 mk_X10_isIn w9.2 ml_RX5_31 sm_X10_isIn rfl (Nat.le_of_ble_eq_true rfl) (by decide) rfl (Nat.le_of_ble_eq_true rfl) dX5_set_13 ?_
    refine V.if_eq (tgt := 33) dX5_set_16 (by decide) (fun c10 => ?_) (fun c10 => ?_)
    · have h := (if_pos c10).symm.trans h
      obtain rfl := Option.some.inj h
      exact V.return_ dX5_set_33
    · have h := (if_neg c10).symm.trans h
      refine V.aload_n dX5_set_19 rfl rfl ?_
      obtain ⟨x11, h12, h⟩ := bnd h
      refine V.getF (gR_F h12) CF5 (Nat.le_of_ble_eq_true rfl) fl_RX5_24 dX5_set_20 ?_
      refine V.iload_n dX5_set_23 rfl rfl ?_
      refine V.aload_n dX5_set_24 rfl rfl ?_
      obtain ⟨x13, h14, h⟩ := bnd h
      refine V.getF (gI_F h14) CF5 (Nat.le_of_ble_eq_true rfl) fl_RX5_9 dX5_set_25 ?_
      refine V.imul dX5_set_28 ?_
      refine V.iload_n dX5_set_29 rfl rfl ?_
      refine V.iadd dX5_set_30 ?_
      refine V.iload_n dX5_set_31 rfl rfl ?_
      obtain ⟨A15, h16, h⟩ := bnd h
      refine V.iast h16 dX5_set_32 ?_
      obtain rfl := Option.some.inj h
      exact V.return_ dX5_set_33
def f_X5_set (A : LH) (v0 : Option Nat) (v1 : Int32) (v2 : Int32) (v3 : Int32) : Option (LH) := if isO A v0 5 = true then b_X5_set A v0 v1 v2 v3 else none
theorem w_X5_set {g : GG} {A : LH} {v0 : Option Nat} {v1 : Int32} {v2 : Int32} {v3 : Int32} {p : LH} (h : f_X5_set A v0 v1 v2 v3 = some p) : Ct g m_X5_set 2 [LR v0, LI v1, LI v2, LI v3] A none p := by
  unfold f_X5_set at h
  obtain ⟨ho, h⟩ := ifN h
  exact ⟨wb_X5_set h, trivial⟩
theorem oo_X5_set {A : LH} {v0 : Option Nat} {v1 : Int32} {v2 : Int32} {v3 : Int32} {p : LH} (h : f_X5_set A v0 v1 v2 v3 = some p) : isO A v0 5 = true := by unfold f_X5_set at h; exact (ifN h).1
def b_X5_copyFrom (A : LH) (v0 : Option Nat) (v1 : Option Nat) : Option (LH) :=
  (gI A v1 5 3).bind fun x1 => (gI A v1 5 0).bind fun x3 => (gR A v0 5 2).bind fun x5 => (ln6 A x5).bind fun x7 => if x7 < (x1 * x3) then some A else (gR A v1 5 2).bind fun x10 => (ln6 A x10).bind fun x12 => if x12 < (x1 * x3) then some A else (gR A v1 5 2).bind fun x15 => (gR A v0 5 2).bind fun x17 => (cpI A x15 (0 : Int32) x17 (0 : Int32) (x1 * x3)).bind fun A19 => (gI A19 v1 5 3).bind fun x21 => (pF A19 v0 5 3 (LI x21)).bind fun A23 => some A23
set_option maxRecDepth 4000 in
theorem wb_X5_copyFrom {g : GG} {n0 z0 : Nat} {A : LH} {v0 : Option Nat} {v1 : Option Nat} {p : LH} (h : b_X5_copyFrom A v0 v1 = some p) : V g m_X5_copyFrom 1 n0 z0 none p A 0 [some (LR v0), some (LR v1)] [] := by
  unfold b_X5_copyFrom at h
  refine V.aload_n dX5_copyFrom_0 rfl rfl ?_
  obtain ⟨x1, h2, h⟩ := bnd h
  refine V.getF (gI_F h2) CF5 (Nat.le_of_ble_eq_true rfl) fl_RX5_28 dX5_copyFrom_1 ?_
  refine V.aload_n dX5_copyFrom_4 rfl rfl ?_
  obtain ⟨x3, h4, h⟩ := bnd h
  refine V.getF (gI_F h4) CF5 (Nat.le_of_ble_eq_true rfl) fl_RX5_9 dX5_copyFrom_5 ?_
  refine V.imul dX5_copyFrom_8 ?_
  refine V.istore_n (ls' := [some (LR v0), some (LR v1), some (LI (x1 * x3))]) dX5_copyFrom_9 rfl (by decide) rfl rfl ?_
  refine V.iload_n dX5_copyFrom_10 rfl rfl ?_
  refine V.aload_n dX5_copyFrom_11 rfl rfl ?_
  obtain ⟨x5, h6, h⟩ := bnd h
  refine V.getF (gR_F h6) CF5 (Nat.le_of_ble_eq_true rfl) fl_RX5_24 dX5_copyFrom_12 ?_
  obtain ⟨x7, h8, h⟩ := bnd h
  refine V.alen (ln6_l h8) (ln6_t h8) dX5_copyFrom_15 ?_
  refine V.icmp_gt (tgt := 50) dX5_copyFrom_16 (by decide) (fun c9 => ?_) (fun c9 => ?_)
  · have h := (if_pos c9).symm.trans h
    obtain rfl := Option.some.inj h
    exact V.return_ dX5_copyFrom_50
  · have h := (if_neg c9).symm.trans h
    refine V.iload_n dX5_copyFrom_19 rfl rfl ?_
    refine V.aload_n dX5_copyFrom_20 rfl rfl ?_
    obtain ⟨x10, h11, h⟩ := bnd h
    refine V.getF (gR_F h11) CF5 (Nat.le_of_ble_eq_true rfl) fl_RX5_24 dX5_copyFrom_21 ?_
    obtain ⟨x12, h13, h⟩ := bnd h
    refine V.alen (ln6_l h13) (ln6_t h13) dX5_copyFrom_24 ?_
    refine V.icmp_gt (tgt := 50) dX5_copyFrom_25 (by decide) (fun c14 => ?_) (fun c14 => ?_)
    · have h := (if_pos c14).symm.trans h
      obtain rfl := Option.some.inj h
      exact V.return_ dX5_copyFrom_50
    · have h := (if_neg c14).symm.trans h
      refine V.aload_n dX5_copyFrom_28 rfl rfl ?_
      obtain ⟨x15, h16, h⟩ := bnd h
      refine V.getF (gR_F h16) CF5 (Nat.le_of_ble_eq_true rfl) fl_RX5_24 dX5_copyFrom_29 ?_
      refine V.iconst dX5_copyFrom_32 ki_0 ?_
      refine V.aload_n dX5_copyFrom_33 rfl rfl ?_
      obtain ⟨x17, h18, h⟩ := bnd h
      refine V.getF (gR_F h18) CF5 (Nat.le_of_ble_eq_true rfl) fl_RX5_24 dX5_copyFrom_34 ?_
      refine V.iconst dX5_copyFrom_37 ki_0 ?_
      refine V.iload_n dX5_copyFrom_38 rfl rfl ?_
      obtain ⟨A19, h20, h⟩ := bnd h
      refine V.copy h20 ml_RX5_39 (by decide) (Nat.le_of_ble_eq_true rfl) dX5_copyFrom_39 ?_
      refine V.aload_n dX5_copyFrom_42 rfl rfl ?_
      refine V.aload_n dX5_copyFrom_43 rfl rfl ?_
      obtain ⟨x21, h22, h⟩ := bnd h
      refine V.getF (gI_F h22) CF5 (Nat.le_of_ble_eq_true rfl) fl_RX5_28 dX5_copyFrom_44 ?_
      obtain ⟨A23, h24, h⟩ := bnd h
      refine V.putF h24 rfl rfl rfl CF5 (Nat.le_of_ble_eq_true rfl) fl_RX5_28 dX5_copyFrom_47 ?_
      obtain rfl := Option.some.inj h
      exact V.return_ dX5_copyFrom_50
def f_X5_copyFrom (A : LH) (v0 : Option Nat) (v1 : Option Nat) : Option (LH) := if isO A v0 5 = true then b_X5_copyFrom A v0 v1 else none
theorem w_X5_copyFrom {g : GG} {A : LH} {v0 : Option Nat} {v1 : Option Nat} {p : LH} (h : f_X5_copyFrom A v0 v1 = some p) : Ct g m_X5_copyFrom 1 [LR v0, LR v1] A none p := by
  unfold f_X5_copyFrom at h
  obtain ⟨ho, h⟩ := ifN h
  exact ⟨wb_X5_copyFrom h, trivial⟩
theorem oo_X5_copyFrom {A : LH} {v0 : Option Nat} {v1 : Option Nat} {p : LH} (h : f_X5_copyFrom A v0 v1 = some p) : isO A v0 5 = true := by unfold f_X5_copyFrom at h; exact (ifN h).1
def b_X1_init (A : LH) (v0 : Option Nat) (v1 : Int32) (v2 : Int32) (v3 : Int32) : Option (LH) :=
  (pF A v0 1 0 (LI v1)).bind fun A1 => (pF A1 v0 1 1 (LI v2)).bind fun A3 => (pF A3 v0 1 2 (LI v3)).bind fun A5 => (pZ A5 v0 1 3 (1 : Int32)).bind fun A7 => some A7
set_option maxRecDepth 4000 in
theorem wb_X1_init {g : GG} {n0 z0 : Nat} {A : LH} {v0 : Option Nat} {v1 : Int32} {v2 : Int32} {v3 : Int32} {p : LH} (ho : isO A v0 1 = true) (h : b_X1_init A v0 v1 v2 v3 = some p) : V g m_X1_init 1 n0 z0 none p A 0 [some (LR v0), some (LI v1), some (LI v2), some (LI v3)] [] := by
  unfold b_X1_init at h
  refine V.aload_n dX1_init_0 rfl rfl ?_
  refine V.objI ho ml_RX1_3 im_obj co_obj (by decide) (Nat.le_of_ble_eq_true rfl) dX1_init_1 ?_
  refine V.aload_n dX1_init_4 rfl rfl ?_
  refine V.iload_n dX1_init_5 rfl rfl ?_
  obtain ⟨A1, h2, h⟩ := bnd h
  refine V.putFF h2 rfl rfl rfl rfl rfl CF1 (Nat.le_of_ble_eq_true rfl) fl_RX1_9 dX1_init_6 ?_
  refine V.aload_n dX1_init_9 rfl rfl ?_
  refine V.iload_n dX1_init_10 rfl rfl ?_
  obtain ⟨A3, h4, h⟩ := bnd h
  refine V.putFF h4 rfl rfl rfl rfl rfl CF1 (Nat.le_of_ble_eq_true rfl) fl_RX1_15 dX1_init_11 ?_
  refine V.aload_n dX1_init_14 rfl rfl ?_
  refine V.iload_n dX1_init_15 rfl rfl ?_
  obtain ⟨A5, h6, h⟩ := bnd h
  refine V.putFF h6 rfl rfl rfl rfl rfl CF1 (Nat.le_of_ble_eq_true rfl) fl_RX1_18 dX1_init_16 ?_
  refine V.aload_n dX1_init_19 rfl rfl ?_
  refine V.iconst dX1_init_20 ki_1 ?_
  obtain ⟨A7, h8, h⟩ := bnd h
  refine V.putF (pZ_F h8).1 (pZ_n (pZ_F h8).2) (pZ_f (pZ_F h8).2) rfl CF1 (Nat.le_of_ble_eq_true rfl) fl_RX1_21 dX1_init_21 ?_
  obtain rfl := Option.some.inj h
  exact V.return_ dX1_init_24
def f_X1_init (A : LH) (v0 : Option Nat) (v1 : Int32) (v2 : Int32) (v3 : Int32) : Option (LH) := if isO A v0 1 = true then b_X1_init A v0 v1 v2 v3 else none
theorem w_X1_init {g : GG} {A : LH} {v0 : Option Nat} {v1 : Int32} {v2 : Int32} {v3 : Int32} {p : LH} (h : f_X1_init A v0 v1 v2 v3 = some p) : Ct g m_X1_init 1 [LR v0, LI v1, LI v2, LI v3] A none p := by
  unfold f_X1_init at h
  obtain ⟨ho, h⟩ := ifN h
  exact ⟨wb_X1_init ho h, trivial⟩
theorem oo_X1_init {A : LH} {v0 : Option Nat} {v1 : Int32} {v2 : Int32} {v3 : Int32} {p : LH} (h : f_X1_init A v0 v1 v2 v3 = some p) : isO A v0 1 = true := by unfold f_X1_init at h; exact (ifN h).1
def b_X1_lineOf_4 (N : Nat) (A : LH) (k4 : Option Nat → Int32 → Int32 → Int32 → Option (Int32)) (v0 : Option Nat) (v1 : Int32) (v2 : Int32) (v3 : Int32) : Option (Int32) :=
  if (12 : Int32) ≤ v3 then some (-1 : Int32) else (gI A v0 1 1).bind fun x2 => (gI A v0 1 2).bind fun x4 => (f_X10_hasBit (x2 ||| x4) v3).bind fun p6 => if p6 = 0 then k4 v0 v1 v2 (v3 + (1 : Int32)) else if v2 = v1 then some v3 else k4 v0 v1 (v2 + (1 : Int32)) (v3 + (1 : Int32))
set_option maxRecDepth 4000 in
theorem wb_X1_lineOf_4 {g : GG} {n0 z0 : Nat} (N : Nat) {k4 : Option Nat → Int32 → Int32 → Int32 → Option (Int32)} {A : LH} {v0 : Option Nat} {v1 : Int32} {v2 : Int32} {v3 : Int32} {p : Int32} (hk4 : ∀ {v0 : Option Nat} {v1 : Int32} {v2 : Int32} {v3 : Int32} {p : Int32}, k4 v0 v1 v2 v3 = some p → V g m_X1_lineOf 1 n0 z0 (some (LI p)) A A 4 [some (LR v0), some (LI v1), some (LI v2), some (LI v3)] []) (h : b_X1_lineOf_4 N A k4 v0 v1 v2 v3 = some p) : V g m_X1_lineOf 1 n0 z0 (some (LI p)) A A 4 [some (LR v0), some (LI v1), some (LI v2), some (LI v3)] [] := by
  unfold b_X1_lineOf_4 at h
  refine V.iload_n dX1_lineOf_4 rfl rfl ?_
  refine V.bipush dX1_lineOf_5 kb_12 ?_
  refine V.icmp_ge (tgt := 42) dX1_lineOf_7 (by decide) (fun c1 => ?_) (fun c1 => ?_)
  · have h := (if_pos c1).symm.trans h
    refine V.iconst dX1_lineOf_42 ki_m1 ?_
    obtain rfl := Option.some.inj h
    exact V.ireturn dX1_lineOf_43
  · have h := (if_neg c1).symm.trans h
    refine V.aload_n dX1_lineOf_10 rfl rfl ?_
    obtain ⟨x2, h3, h⟩ := bnd h
    refine V.getF (gI_F h3) CF1 (Nat.le_of_ble_eq_true rfl) fl_RX1_15 dX1_lineOf_11 ?_
    refine V.aload_n dX1_lineOf_14 rfl rfl ?_
    obtain ⟨x4, h5, h⟩ := bnd h
    refine V.getF (gI_F h5) CF1 (Nat.le_of_ble_eq_true rfl) fl_RX1_18 dX1_lineOf_15 ?_
    refine V.ior dX1_lineOf_18 ?_
    refine V.iload_n dX1_lineOf_19 rfl rfl ?_
    obtain ⟨p6, h7, h⟩ := bnd h
    have w8 := w_X10_hasBit (g := g) (A := A) h7
    refine V.callSNi (args := [LI (x2 ||| x4), LI v3]) (st := []) w8.1 mk_X10_hasBit w8.2 ml_RX1_29 sm_X10_hasBit rfl (Nat.le_of_ble_eq_true rfl) (by decide) rfl (Nat.le_of_ble_eq_true rfl) dX1_lineOf_20 ?_
    refine V.if_eq (tgt := 36) dX1_lineOf_23 (by decide) (fun c9 => ?_) (fun c9 => ?_)
    · have h := (if_pos c9).symm.trans h
      refine V.iinc (ls' := [some (LR v0), some (LI v1), some (LI v2), some (LI (v3 + (1 : Int32)))]) dX1_lineOf_36 rfl ki_1 (by decide) rfl rfl ?_
      refine V.goto (tgt := 4) dX1_lineOf_39 (by decide) ?_
      refine V.weak [true, true, true, true] ?_
      exact hk4 h
    · have h := (if_neg c9).symm.trans h
      refine V.iload_n dX1_lineOf_26 rfl rfl ?_
      refine V.iload_n dX1_lineOf_27 rfl rfl ?_
      refine V.icmp_ne (tgt := 33) dX1_lineOf_28 (by decide) (fun c10 => ?_) (fun c10 => ?_)
      · have h := (if_neg c10).symm.trans h
        refine V.iinc (ls' := [some (LR v0), some (LI v1), some (LI (v2 + (1 : Int32))), some (LI v3)]) dX1_lineOf_33 rfl ki_1 (by decide) rfl rfl ?_
        refine V.iinc (ls' := [some (LR v0), some (LI v1), some (LI (v2 + (1 : Int32))), some (LI (v3 + (1 : Int32)))]) dX1_lineOf_36 rfl ki_1 (by decide) rfl rfl ?_
        refine V.goto (tgt := 4) dX1_lineOf_39 (by decide) ?_
        refine V.weak [true, true, true, true] ?_
        exact hk4 h
      · have h := (if_pos c10).symm.trans h
        refine V.iload_n dX1_lineOf_31 rfl rfl ?_
        obtain rfl := Option.some.inj h
        exact V.ireturn dX1_lineOf_32
def l_X1_lineOf_4 (N : Nat) (A : LH) : Nat → Option Nat → Int32 → Int32 → Int32 → Option (Int32)
  | 0, _, _, _, _ => none
  | n + 1, v0, v1, v2, v3 => b_X1_lineOf_4 N A (l_X1_lineOf_4 N A n) v0 v1 v2 v3
theorem wl_X1_lineOf_4 {g : GG} {n0 z0 : Nat} (N : Nat) {A : LH} : ∀ (n : Nat) {v0 : Option Nat} {v1 : Int32} {v2 : Int32} {v3 : Int32} {p : Int32}, l_X1_lineOf_4 N A n v0 v1 v2 v3 = some p → V g m_X1_lineOf 1 n0 z0 (some (LI p)) A A 4 [some (LR v0), some (LI v1), some (LI v2), some (LI v3)] []
  | 0, _, _, _, _, _, h => nomatch h
  | n + 1, _, _, _, _, _, h => wb_X1_lineOf_4 N (wl_X1_lineOf_4 N n) h
def b_X1_lineOf (N : Nat) (A : LH) (v0 : Option Nat) (v1 : Int32) : Option (Int32) :=
  l_X1_lineOf_4 N A N v0 v1 (0 : Int32) (0 : Int32)
set_option maxRecDepth 4000 in
theorem wb_X1_lineOf {g : GG} {n0 z0 : Nat} (N : Nat) {A : LH} {v0 : Option Nat} {v1 : Int32} {p : Int32} (h : b_X1_lineOf N A v0 v1 = some p) : V g m_X1_lineOf 1 n0 z0 (some (LI p)) A A 0 [some (LR v0), some (LI v1)] [] := by
  unfold b_X1_lineOf at h
  refine V.iconst dX1_lineOf_0 ki_0 ?_
  refine V.istore_n (ls' := [some (LR v0), some (LI v1), some (LI (0 : Int32))]) dX1_lineOf_1 rfl (by decide) rfl rfl ?_
  refine V.iconst dX1_lineOf_2 ki_0 ?_
  refine V.istore_n (ls' := [some (LR v0), some (LI v1), some (LI (0 : Int32)), some (LI (0 : Int32))]) dX1_lineOf_3 rfl (by decide) rfl rfl ?_
  refine V.weak [true, true, true, true] ?_
  exact wl_X1_lineOf_4 N N h
def f_X1_lineOf (N : Nat) (A : LH) (v0 : Option Nat) (v1 : Int32) : Option (Int32) := if isO A v0 1 = true then b_X1_lineOf N A v0 v1 else none
theorem w_X1_lineOf {g : GG} (N : Nat) {A : LH} {v0 : Option Nat} {v1 : Int32} {p : Int32} (h : f_X1_lineOf N A v0 v1 = some p) : Ct g m_X1_lineOf 1 [LR v0, LI v1] A (some (LI p)) A := by
  unfold f_X1_lineOf at h
  obtain ⟨ho, h⟩ := ifN h
  exact ⟨wb_X1_lineOf N h, rfl⟩
theorem oo_X1_lineOf {N : Nat} {A : LH} {v0 : Option Nat} {v1 : Int32} {p : Int32} (h : f_X1_lineOf N A v0 v1 = some p) : isO A v0 1 = true := by unfold f_X1_lineOf at h; exact (ifN h).1
def b_X1_changeAt (N : Nat) (A : LH) (v0 : Option Nat) (v1 : Int32) (v2 : Int32) : Option (Int32) :=
  (f_X1_lineOf N A v0 v1).bind fun p1 => if p1 = (-1 : Int32) then some (-1 : Int32) else if v2 < 0 then some (-1 : Int32) else if v2 ≤ (1 : Int32) then if v2 = 0 then some p1 else (gI A v0 1 2).bind fun x8 => (f_X10_hasBit x8 p1).bind fun p10 => if p10 = 0 then some (0 : Int32) else some (1 : Int32) else some (-1 : Int32)
set_option maxRecDepth 4000 in
theorem wb_X1_changeAt {g : GG} {n0 z0 : Nat} (N : Nat) {A : LH} {v0 : Option Nat} {v1 : Int32} {v2 : Int32} {p : Int32} (h : b_X1_changeAt N A v0 v1 v2 = some p) : V g m_X1_changeAt 2 n0 z0 (some (LI p)) A A 0 [some (LR v0), some (LI v1), some (LI v2)] [] := by
  unfold b_X1_changeAt at h
  refine V.aload_n dX1_changeAt_0 rfl rfl ?_
  refine V.iload_n dX1_changeAt_1 rfl rfl ?_
  obtain ⟨p1, h2, h⟩ := bnd h
  have w3 := w_X1_lineOf (g := g) N h2
  refine V.callVi (args := [LI v1]) (st := []) w3.1 (oo_X1_lineOf h2) mk_X1_lineOf w3.2 vc_1 ml_RX1_25 im_X1_lineOf se_X1_lineOf rfl (Nat.le_of_ble_eq_true rfl) (by decide) rfl (Nat.le_of_ble_eq_true rfl) dX1_changeAt_2 ?_
  refine V.istore_n (ls' := [some (LR v0), some (LI v1), some (LI v2), some (LI p1)]) dX1_changeAt_5 rfl (by decide) rfl rfl ?_
  refine V.iload_n dX1_changeAt_6 rfl rfl ?_
  refine V.iconst dX1_changeAt_7 ki_m1 ?_
  refine V.icmp_eq (tgt := 20) dX1_changeAt_8 (by decide) (fun c4 => ?_) (fun c4 => ?_)
  · have h := (if_pos c4).symm.trans h
    refine V.iconst dX1_changeAt_20 ki_m1 ?_
    obtain rfl := Option.some.inj h
    exact V.ireturn dX1_changeAt_21
  · have h := (if_neg c4).symm.trans h
    refine V.iload_n dX1_changeAt_11 rfl rfl ?_
    refine V.if_lt (tgt := 20) dX1_changeAt_12 (by decide) (fun c5 => ?_) (fun c5 => ?_)
    · have h := (if_pos c5).symm.trans h
      refine V.iconst dX1_changeAt_20 ki_m1 ?_
      obtain rfl := Option.some.inj h
      exact V.ireturn dX1_changeAt_21
    · have h := (if_neg c5).symm.trans h
      refine V.iload_n dX1_changeAt_15 rfl rfl ?_
      refine V.iconst dX1_changeAt_16 ki_1 ?_
      refine V.icmp_le (tgt := 22) dX1_changeAt_17 (by decide) (fun c6 => ?_) (fun c6 => ?_)
      · have h := (if_pos c6).symm.trans h
        refine V.iload_n dX1_changeAt_22 rfl rfl ?_
        refine V.if_ne (tgt := 28) dX1_changeAt_23 (by decide) (fun c7 => ?_) (fun c7 => ?_)
        · have h := (if_neg c7).symm.trans h
          refine V.aload_n dX1_changeAt_28 rfl rfl ?_
          obtain ⟨x8, h9, h⟩ := bnd h
          refine V.getF (gI_F h9) CF1 (Nat.le_of_ble_eq_true rfl) fl_RX1_18 dX1_changeAt_29 ?_
          refine V.iload_n dX1_changeAt_32 rfl rfl ?_
          obtain ⟨p10, h11, h⟩ := bnd h
          have w12 := w_X10_hasBit (g := g) (A := A) h11
          refine V.callSNi (args := [LI x8, LI p1]) (st := []) w12.1 mk_X10_hasBit w12.2 ml_RX1_29 sm_X10_hasBit rfl (Nat.le_of_ble_eq_true rfl) (by decide) rfl (Nat.le_of_ble_eq_true rfl) dX1_changeAt_33 ?_
          refine V.if_eq (tgt := 43) dX1_changeAt_36 (by decide) (fun c13 => ?_) (fun c13 => ?_)
          · have h := (if_pos c13).symm.trans h
            refine V.iconst dX1_changeAt_43 ki_0 ?_
            obtain rfl := Option.some.inj h
            exact V.ireturn dX1_changeAt_44
          · have h := (if_neg c13).symm.trans h
            refine V.iconst dX1_changeAt_39 ki_1 ?_
            refine V.goto (tgt := 44) dX1_changeAt_40 (by decide) ?_
            obtain rfl := Option.some.inj h
            exact V.ireturn dX1_changeAt_44
        · have h := (if_pos c7).symm.trans h
          refine V.iload_n dX1_changeAt_26 rfl rfl ?_
          obtain rfl := Option.some.inj h
          exact V.ireturn dX1_changeAt_27
      · have h := (if_neg c6).symm.trans h
        refine V.iconst dX1_changeAt_20 ki_m1 ?_
        obtain rfl := Option.some.inj h
        exact V.ireturn dX1_changeAt_21
def f_X1_changeAt (N : Nat) (A : LH) (v0 : Option Nat) (v1 : Int32) (v2 : Int32) : Option (Int32) := if isO A v0 1 = true then b_X1_changeAt N A v0 v1 v2 else none
theorem w_X1_changeAt {g : GG} (N : Nat) {A : LH} {v0 : Option Nat} {v1 : Int32} {v2 : Int32} {p : Int32} (h : f_X1_changeAt N A v0 v1 v2 = some p) : Ct g m_X1_changeAt 2 [LR v0, LI v1, LI v2] A (some (LI p)) A := by
  unfold f_X1_changeAt at h
  obtain ⟨ho, h⟩ := ifN h
  exact ⟨wb_X1_changeAt N h, rfl⟩
theorem oo_X1_changeAt {N : Nat} {A : LH} {v0 : Option Nat} {v1 : Int32} {v2 : Int32} {p : Int32} (h : f_X1_changeAt N A v0 v1 v2 = some p) : isO A v0 1 = true := by unfold f_X1_changeAt at h; exact (ifN h).1
