def b_X11_init (A : LH) (v0 : Option Nat) : Option (LH) :=
  (nI_ A 1 (600 : Int32)).bind fun A1 => (pF A1 v0 11 1 (LR (some (8 + hn A)))).bind fun A3 => (nI_ A3 0 (4 : Int32)).bind fun A5 => (pF A5 v0 11 3 (LR (some (8 + hn A3)))).bind fun A7 => (nI_ A7 0 (64 : Int32)).bind fun A9 => (pF A9 v0 11 4 (LR (some (8 + hn A7)))).bind fun A11 => (nI_ A11 0 (64 : Int32)).bind fun A13 => (pF A13 v0 11 5 (LR (some (8 + hn A11)))).bind fun A15 => (nI_ A15 0 (4 : Int32)).bind fun A17 => (pF A17 v0 11 6 (LR (some (8 + hn A15)))).bind fun A19 => (nI_ A19 0 (64 : Int32)).bind fun A21 => (pF A21 v0 11 7 (LR (some (8 + hn A19)))).bind fun A23 => (nI_ A23 0 (64 : Int32)).bind fun A25 => (pF A25 v0 11 8 (LR (some (8 + hn A23)))).bind fun A27 => (nI_ A27 0 (64 : Int32)).bind fun A29 => (pF A29 v0 11 9 (LR (some (8 + hn A27)))).bind fun A31 => (nI_ A31 0 (4 : Int32)).bind fun A33 => (pF A33 v0 11 10 (LR (some (8 + hn A31)))).bind fun A35 => (nI_ A35 0 (3200 : Int32)).bind fun A37 => (pF A37 v0 11 11 (LR (some (8 + hn A35)))).bind fun A39 => (nI_ A39 0 (800 : Int32)).bind fun A41 => (pF A41 v0 11 12 (LR (some (8 + hn A39)))).bind fun A43 => (nI_ A43 0 (16 : Int32)).bind fun A45 => (pF A45 v0 11 13 (LR (some (8 + hn A43)))).bind fun A47 => (nI_ A47 0 (16 : Int32)).bind fun A49 => (pF A49 v0 11 14 (LR (some (8 + hn A47)))).bind fun A51 => (nI_ A51 0 (1536 : Int32)).bind fun A53 => (pF A53 v0 11 15 (LR (some (8 + hn A51)))).bind fun A55 => (nI_ A55 1 (14400 : Int32)).bind fun A57 => (pF A57 v0 11 16 (LR (some (8 + hn A55)))).bind fun A59 => (nI_ A59 0 (14400 : Int32)).bind fun A61 => (pF A61 v0 11 17 (LR (some (8 + hn A59)))).bind fun A63 => (pF A63 v0 11 25 (LI (-1 : Int32))).bind fun A65 => (nI_ A65 0 (104 : Int32)).bind fun A67 => (pF A67 v0 11 32 (LR (some (8 + hn A65)))).bind fun A69 => (nI_ A69 1 (900 : Int32)).bind fun A71 => (pF A71 v0 11 33 (LR (some (8 + hn A69)))).bind fun A73 => (nI_ A73 0 (900 : Int32)).bind fun A75 => (pF A75 v0 11 34 (LR (some (8 + hn A73)))).bind fun A77 => (nI_ A77 0 (4 : Int32)).bind fun A79 => (pF A79 v0 11 37 (LR (some (8 + hn A77)))).bind fun A81 => (nI_ A81 0 (64 : Int32)).bind fun A83 => (pF A83 v0 11 38 (LR (some (8 + hn A81)))).bind fun A85 => (nI_ A85 0 (3 : Int32)).bind fun A87 => (pF A87 v0 11 45 (LR (some (8 + hn A85)))).bind fun A89 => (nI_ A89 0 (3 : Int32)).bind fun A91 => (pF A91 v0 11 46 (LR (some (8 + hn A89)))).bind fun A93 => (nI_ A93 0 (3 : Int32)).bind fun A95 => (pF A95 v0 11 47 (LR (some (8 + hn A93)))).bind fun A97 => (nI_ A97 0 (3 : Int32)).bind fun A99 => (pF A99 v0 11 48 (LR (some (8 + hn A97)))).bind fun A101 => (nI_ A101 2 (3 : Int32)).bind fun A103 => (pF A103 v0 11 49 (LR (some (8 + hn A101)))).bind fun A105 => some A105
set_option maxRecDepth 4000 in
theorem wb_X11_init {g : GG} {n0 z0 : Nat} {A : LH} {v0 : Option Nat} {p : LH} (ho : isO A v0 11 = true) (h : b_X11_init A v0 = some p) : V g m_X11_init 1 n0 z0 none p A 0 [some (LR v0)] [] := by
  unfold b_X11_init at h
  refine V.aload_n dX11_init_0 rfl rfl ?_
  refine V.objI ho ml_RX11_1 im_obj co_obj (by decide) (Nat.le_of_ble_eq_true rfl) dX11_init_1 ?_
  refine V.aload_n dX11_init_4 rfl rfl ?_
  refine V.sipush dX11_init_5 ks_600 ?_
  obtain ⟨A1, h2, h⟩ := bnd h
  refine V.newa (ty := .byte) h2 rfl rfl rfl (fun _ z => z) (by decide) ac_1 dX11_init_8 ?_
  obtain ⟨A3, h4, h⟩ := bnd h
  refine V.putFF h4 (nrR _ rfl) (ftR _ rfl) rfl rfl rfl CF11 (Nat.le_of_ble_eq_true rfl) fl_RX11_7 dX11_init_10 ?_
  refine V.aload_n dX11_init_13 rfl rfl ?_
  refine V.iconst dX11_init_14 ki_4 ?_
  obtain ⟨A5, h6, h⟩ := bnd h
  refine V.newa (ty := .int) h6 rfl rfl rfl (fun _ z => z) (by decide) ac_0 dX11_init_15 ?_
  obtain ⟨A7, h8, h⟩ := bnd h
  refine V.putFF h8 (nrR _ rfl) (ftR _ rfl) rfl rfl rfl CF11 (Nat.le_of_ble_eq_true rfl) fl_RX11_13 dX11_init_17 ?_
  refine V.aload_n dX11_init_20 rfl rfl ?_
  refine V.bipush dX11_init_21 kb_64 ?_
  obtain ⟨A9, h10, h⟩ := bnd h
  refine V.newa (ty := .int) h10 rfl rfl rfl (fun _ z => z) (by decide) ac_0 dX11_init_23 ?_
  obtain ⟨A11, h12, h⟩ := bnd h
  refine V.putFF h12 (nrR _ rfl) (ftR _ rfl) rfl rfl rfl CF11 (Nat.le_of_ble_eq_true rfl) fl_RX11_17 dX11_init_25 ?_
  refine V.aload_n dX11_init_28 rfl rfl ?_
  refine V.bipush dX11_init_29 kb_64 ?_
  obtain ⟨A13, h14, h⟩ := bnd h
  refine V.newa (ty := .int) h14 rfl rfl rfl (fun _ z => z) (by decide) ac_0 dX11_init_31 ?_
  obtain ⟨A15, h16, h⟩ := bnd h
  refine V.putFF h16 (nrR _ rfl) (ftR _ rfl) rfl rfl rfl CF11 (Nat.le_of_ble_eq_true rfl) fl_RX11_20 dX11_init_33 ?_
  refine V.aload_n dX11_init_36 rfl rfl ?_
  refine V.iconst dX11_init_37 ki_4 ?_
  obtain ⟨A17, h18, h⟩ := bnd h
  refine V.newa (ty := .int) h18 rfl rfl rfl (fun _ z => z) (by decide) ac_0 dX11_init_38 ?_
  obtain ⟨A19, h20, h⟩ := bnd h
  refine V.putFF h20 (nrR _ rfl) (ftR _ rfl) rfl rfl rfl CF11 (Nat.le_of_ble_eq_true rfl) fl_RX11_23 dX11_init_40 ?_
  refine V.aload_n dX11_init_43 rfl rfl ?_
  refine V.bipush dX11_init_44 kb_64 ?_
  obtain ⟨A21, h22, h⟩ := bnd h
  refine V.newa (ty := .int) h22 rfl rfl rfl (fun _ z => z) (by decide) ac_0 dX11_init_46 ?_
  obtain ⟨A23, h24, h⟩ := bnd h
  refine V.putFF h24 (nrR _ rfl) (ftR _ rfl) rfl rfl rfl CF11 (Nat.le_of_ble_eq_true rfl) fl_RX11_26 dX11_init_48 ?_
  refine V.aload_n dX11_init_51 rfl rfl ?_
  refine V.bipush dX11_init_52 kb_64 ?_
  obtain ⟨A25, h26, h⟩ := bnd h
  refine V.newa (ty := .int) h26 rfl rfl rfl (fun _ z => z) (by decide) ac_0 dX11_init_54 ?_
  obtain ⟨A27, h28, h⟩ := bnd h
  refine V.putFF h28 (nrR _ rfl) (ftR _ rfl) rfl rfl rfl CF11 (Nat.le_of_ble_eq_true rfl) fl_RX11_29 dX11_init_56 ?_
  refine V.aload_n dX11_init_59 rfl rfl ?_
  refine V.bipush dX11_init_60 kb_64 ?_
  obtain ⟨A29, h30, h⟩ := bnd h
  refine V.newa (ty := .int) h30 rfl rfl rfl (fun _ z => z) (by decide) ac_0 dX11_init_62 ?_
  obtain ⟨A31, h32, h⟩ := bnd h
  refine V.putFF h32 (nrR _ rfl) (ftR _ rfl) rfl rfl rfl CF11 (Nat.le_of_ble_eq_true rfl) fl_RX11_32 dX11_init_64 ?_
  refine V.aload_n dX11_init_67 rfl rfl ?_
  refine V.iconst dX11_init_68 ki_4 ?_
  obtain ⟨A33, h34, h⟩ := bnd h
  refine V.newa (ty := .int) h34 rfl rfl rfl (fun _ z => z) (by decide) ac_0 dX11_init_69 ?_
  obtain ⟨A35, h36, h⟩ := bnd h
  refine V.putFF h36 (nrR _ rfl) (ftR _ rfl) rfl rfl rfl CF11 (Nat.le_of_ble_eq_true rfl) fl_RX11_35 dX11_init_71 ?_
  refine V.aload_n dX11_init_74 rfl rfl ?_
  refine V.sipush dX11_init_75 ks_3200 ?_
  obtain ⟨A37, h38, h⟩ := bnd h
  refine V.newa (ty := .int) h38 rfl rfl rfl (fun _ z => z) (by decide) ac_0 dX11_init_78 ?_
  obtain ⟨A39, h40, h⟩ := bnd h
  refine V.putFF h40 (nrR _ rfl) (ftR _ rfl) rfl rfl rfl CF11 (Nat.le_of_ble_eq_true rfl) fl_RX11_38 dX11_init_80 ?_
  refine V.aload_n dX11_init_83 rfl rfl ?_
  refine V.sipush dX11_init_84 ks_800 ?_
  obtain ⟨A41, h42, h⟩ := bnd h
  refine V.newa (ty := .int) h42 rfl rfl rfl (fun _ z => z) (by decide) ac_0 dX11_init_87 ?_
  obtain ⟨A43, h44, h⟩ := bnd h
  refine V.putFF h44 (nrR _ rfl) (ftR _ rfl) rfl rfl rfl CF11 (Nat.le_of_ble_eq_true rfl) fl_RX11_41 dX11_init_89 ?_
  refine V.aload_n dX11_init_92 rfl rfl ?_
  refine V.bipush dX11_init_93 kb_16 ?_
  obtain ⟨A45, h46, h⟩ := bnd h
  refine V.newa (ty := .int) h46 rfl rfl rfl (fun _ z => z) (by decide) ac_0 dX11_init_95 ?_
  obtain ⟨A47, h48, h⟩ := bnd h
  refine V.putFF h48 (nrR _ rfl) (ftR _ rfl) rfl rfl rfl CF11 (Nat.le_of_ble_eq_true rfl) fl_RX11_44 dX11_init_97 ?_
  refine V.aload_n dX11_init_100 rfl rfl ?_
  refine V.bipush dX11_init_101 kb_16 ?_
  obtain ⟨A49, h50, h⟩ := bnd h
  refine V.newa (ty := .int) h50 rfl rfl rfl (fun _ z => z) (by decide) ac_0 dX11_init_103 ?_
  obtain ⟨A51, h52, h⟩ := bnd h
  refine V.putFF h52 (nrR _ rfl) (ftR _ rfl) rfl rfl rfl CF11 (Nat.le_of_ble_eq_true rfl) fl_RX11_47 dX11_init_105 ?_
  refine V.aload_n dX11_init_108 rfl rfl ?_
  refine V.sipush dX11_init_109 ks_1536 ?_
  obtain ⟨A53, h54, h⟩ := bnd h
  refine V.newa (ty := .int) h54 rfl rfl rfl (fun _ z => z) (by decide) ac_0 dX11_init_112 ?_
  obtain ⟨A55, h56, h⟩ := bnd h
  refine V.putFF h56 (nrR _ rfl) (ftR _ rfl) rfl rfl rfl CF11 (Nat.le_of_ble_eq_true rfl) fl_RX11_50 dX11_init_114 ?_
  refine V.aload_n dX11_init_117 rfl rfl ?_
  refine V.sipush dX11_init_118 ks_14400 ?_
  obtain ⟨A57, h58, h⟩ := bnd h
  refine V.newa (ty := .byte) h58 rfl rfl rfl (fun _ z => z) (by decide) ac_1 dX11_init_121 ?_
  obtain ⟨A59, h60, h⟩ := bnd h
  refine V.putFF h60 (nrR _ rfl) (ftR _ rfl) rfl rfl rfl CF11 (Nat.le_of_ble_eq_true rfl) fl_RX11_53 dX11_init_123 ?_
  refine V.aload_n dX11_init_126 rfl rfl ?_
  refine V.sipush dX11_init_127 ks_14400 ?_
  obtain ⟨A61, h62, h⟩ := bnd h
  refine V.newa (ty := .int) h62 rfl rfl rfl (fun _ z => z) (by decide) ac_0 dX11_init_130 ?_
  obtain ⟨A63, h64, h⟩ := bnd h
  refine V.putFF h64 (nrR _ rfl) (ftR _ rfl) rfl rfl rfl CF11 (Nat.le_of_ble_eq_true rfl) fl_RX11_56 dX11_init_132 ?_
  refine V.aload_n dX11_init_135 rfl rfl ?_
  refine V.iconst dX11_init_136 ki_m1 ?_
  obtain ⟨A65, h66, h⟩ := bnd h
  refine V.putF h66 rfl rfl rfl CF11 (Nat.le_of_ble_eq_true rfl) fl_RX11_59 dX11_init_137 ?_
  refine V.aload_n dX11_init_140 rfl rfl ?_
  refine V.bipush dX11_init_141 kb_104 ?_
  obtain ⟨A67, h68, h⟩ := bnd h
  refine V.newa (ty := .int) h68 rfl rfl rfl (fun _ z => z) (by decide) ac_0 dX11_init_143 ?_
  obtain ⟨A69, h70, h⟩ := bnd h
  refine V.putFF h70 (nrR _ rfl) (ftR _ rfl) rfl rfl rfl CF11 (Nat.le_of_ble_eq_true rfl) fl_RX11_63 dX11_init_145 ?_
  refine V.aload_n dX11_init_148 rfl rfl ?_
  refine V.sipush dX11_init_149 ks_900 ?_
  obtain ⟨A71, h72, h⟩ := bnd h
  refine V.newa (ty := .byte) h72 rfl rfl rfl (fun _ z => z) (by decide) ac_1 dX11_init_152 ?_
  obtain ⟨A73, h74, h⟩ := bnd h
  refine V.putFF h74 (nrR _ rfl) (ftR _ rfl) rfl rfl rfl CF11 (Nat.le_of_ble_eq_true rfl) fl_RX11_66 dX11_init_154 ?_
  refine V.aload_n dX11_init_157 rfl rfl ?_
  refine V.sipush dX11_init_158 ks_900 ?_
  obtain ⟨A75, h76, h⟩ := bnd h
  refine V.newa (ty := .int) h76 rfl rfl rfl (fun _ z => z) (by decide) ac_0 dX11_init_161 ?_
  obtain ⟨A77, h78, h⟩ := bnd h
  refine V.putFF h78 (nrR _ rfl) (ftR _ rfl) rfl rfl rfl CF11 (Nat.le_of_ble_eq_true rfl) fl_RX11_69 dX11_init_163 ?_
  refine V.aload_n dX11_init_166 rfl rfl ?_
  refine V.iconst dX11_init_167 ki_4 ?_
  obtain ⟨A79, h80, h⟩ := bnd h
  refine V.newa (ty := .int) h80 rfl rfl rfl (fun _ z => z) (by decide) ac_0 dX11_init_168 ?_
  obtain ⟨A81, h82, h⟩ := bnd h
  refine V.putFF h82 (nrR _ rfl) (ftR _ rfl) rfl rfl rfl CF11 (Nat.le_of_ble_eq_true rfl) fl_RX11_72 dX11_init_170 ?_
  refine V.aload_n dX11_init_173 rfl rfl ?_
  refine V.bipush dX11_init_174 kb_64 ?_
  obtain ⟨A83, h84, h⟩ := bnd h
  refine V.newa (ty := .int) h84 rfl rfl rfl (fun _ z => z) (by decide) ac_0 dX11_init_176 ?_
  obtain ⟨A85, h86, h⟩ := bnd h
  refine V.putFF h86 (nrR _ rfl) (ftR _ rfl) rfl rfl rfl CF11 (Nat.le_of_ble_eq_true rfl) fl_RX11_75 dX11_init_178 ?_
  refine V.aload_n dX11_init_181 rfl rfl ?_
  refine V.iconst dX11_init_182 ki_3 ?_
  obtain ⟨A87, h88, h⟩ := bnd h
  refine V.newa (ty := .int) h88 rfl rfl rfl (fun _ z => z) (by decide) ac_0 dX11_init_183 ?_
  obtain ⟨A89, h90, h⟩ := bnd h
  refine V.putFF h90 (nrR _ rfl) (ftR _ rfl) rfl rfl rfl CF11 (Nat.le_of_ble_eq_true rfl) fl_RX11_78 dX11_init_185 ?_
  refine V.aload_n dX11_init_188 rfl rfl ?_
  refine V.iconst dX11_init_189 ki_3 ?_
  obtain ⟨A91, h92, h⟩ := bnd h
  refine V.newa (ty := .int) h92 rfl rfl rfl (fun _ z => z) (by decide) ac_0 dX11_init_190 ?_
  obtain ⟨A93, h94, h⟩ := bnd h
  refine V.putFF h94 (nrR _ rfl) (ftR _ rfl) rfl rfl rfl CF11 (Nat.le_of_ble_eq_true rfl) fl_RX11_81 dX11_init_192 ?_
  refine V.aload_n dX11_init_195 rfl rfl ?_
  refine V.iconst dX11_init_196 ki_3 ?_
  obtain ⟨A95, h96, h⟩ := bnd h
  refine V.newa (ty := .int) h96 rfl rfl rfl (fun _ z => z) (by decide) ac_0 dX11_init_197 ?_
  obtain ⟨A97, h98, h⟩ := bnd h
  refine V.putFF h98 (nrR _ rfl) (ftR _ rfl) rfl rfl rfl CF11 (Nat.le_of_ble_eq_true rfl) fl_RX11_84 dX11_init_199 ?_
  refine V.aload_n dX11_init_202 rfl rfl ?_
  refine V.iconst dX11_init_203 ki_3 ?_
  obtain ⟨A99, h100, h⟩ := bnd h
  refine V.newa (ty := .int) h100 rfl rfl rfl (fun _ z => z) (by decide) ac_0 dX11_init_204 ?_
  obtain ⟨A101, h102, h⟩ := bnd h
  refine V.putFF h102 (nrR _ rfl) (ftR _ rfl) rfl rfl rfl CF11 (Nat.le_of_ble_eq_true rfl) fl_RX11_87 dX11_init_206 ?_
  refine V.aload_n dX11_init_209 rfl rfl ?_
  refine V.iconst dX11_init_210 ki_3 ?_
  obtain ⟨A103, h104, h⟩ := bnd h
  refine V.newa (ty := .boolean) h104 rfl rfl rfl (fun _ z => z) (by decide) ac_2 dX11_init_211 ?_
  obtain ⟨A105, h106, h⟩ := bnd h
  refine V.putFF h106 (nrR _ rfl) (ftR _ rfl) rfl rfl rfl CF11 (Nat.le_of_ble_eq_true rfl) fl_RX11_90 dX11_init_213 ?_
  obtain rfl := Option.some.inj h
  exact V.return_ dX11_init_216
def f_X11_init (A : LH) (v0 : Option Nat) : Option (LH) := if isO A v0 11 = true then b_X11_init A v0 else none
theorem w_X11_init {g : GG} {A : LH} {v0 : Option Nat} {p : LH} (h : f_X11_init A v0 = some p) : Ct g m_X11_init 1 [LR v0] A none p := by
  unfold f_X11_init at h
  obtain ⟨ho, h⟩ := ifN h
  exact ⟨wb_X11_init ho h, trivial⟩
theorem oo_X11_init {A : LH} {v0 : Option Nat} {p : LH} (h : f_X11_init A v0 = some p) : isO A v0 11 = true := by unfold f_X11_init at h; exact (ifN h).1
def b_X11_in (v0 : Int32) (v1 : Int32) (v2 : Int32) : Option (Int32) :=
  if v0 < v1 then some (0 : Int32) else if v2 < v0 then some (0 : Int32) else some (1 : Int32)
set_option maxRecDepth 4000 in
theorem wb_X11_in {g : GG} {n0 z0 : Nat} {A : LH} {v0 : Int32} {v1 : Int32} {v2 : Int32} {p : Int32} (h : b_X11_in v0 v1 v2 = some p) : V g m_X11_in 0 n0 z0 (some (LI p)) A A 0 [some (LI v0), some (LI v1), some (LI v2)] [] := by
  unfold b_X11_in at h
  refine V.iload_n dX11_in_0 rfl rfl ?_
  refine V.iload_n dX11_in_1 rfl rfl ?_
  refine V.icmp_lt (tgt := 14) dX11_in_2 (by decide) (fun c1 => ?_) (fun c1 => ?_)
  · have h := (if_pos c1).symm.trans h
    refine V.iconst dX11_in_14 ki_0 ?_
    obtain rfl := Option.some.inj h
    exact V.ireturn dX11_in_15
  · have h := (if_neg c1).symm.trans h
    refine V.iload_n dX11_in_5 rfl rfl ?_
    refine V.iload_n dX11_in_6 rfl rfl ?_
    refine V.icmp_gt (tgt := 14) dX11_in_7 (by decide) (fun c2 => ?_) (fun c2 => ?_)
    · have h := (if_pos c2).symm.trans h
      refine V.iconst dX11_in_14 ki_0 ?_
      obtain rfl := Option.some.inj h
      exact V.ireturn dX11_in_15
    · have h := (if_neg c2).symm.trans h
      refine V.iconst dX11_in_10 ki_1 ?_
      refine V.goto (tgt := 15) dX11_in_11 (by decide) ?_
      obtain rfl := Option.some.inj h
      exact V.ireturn dX11_in_15
def f_X11_in (v0 : Int32) (v1 : Int32) (v2 : Int32) : Option (Int32) := zd (b_X11_in v0 v1 v2)
theorem w_X11_in {g : GG} {A : LH} {v0 : Int32} {v1 : Int32} {v2 : Int32} {p : Int32} (h : f_X11_in v0 v1 v2 = some p) : Ct g m_X11_in 0 [LI v0, LI v1, LI v2] A (some (LI p)) A := by
  unfold f_X11_in at h
  obtain ⟨h, hz⟩ := zd_sp h
  exact ⟨wb_X11_in h, (RTz hz)⟩
def b_X11_move_3 (N : Nat) (k3 : LH → Option Nat → Int32 → Int32 → Int32 → Int32 → Option (LH)) (A : LH) (v0 : Option Nat) (v1 : Int32) (v2 : Int32) (v3 : Int32) (v4 : Int32) : Option (LH) :=
  if v1 ≤ v4 then some A else (aI A v0 0 ((v1 * v2) + v4)).bind fun x2 => (sI A v0 0 ((v1 * v3) + v4) x2).bind fun A4 => k3 A4 v0 v1 v2 v3 (v4 + (1 : Int32))
set_option maxRecDepth 4000 in
theorem wb_X11_move_3 {g : GG} {n0 z0 : Nat} (N : Nat) {k3 : LH → Option Nat → Int32 → Int32 → Int32 → Int32 → Option (LH)} {A : LH} {v0 : Option Nat} {v1 : Int32} {v2 : Int32} {v3 : Int32} {v4 : Int32} {p : LH} (hk3 : ∀ {A : LH} {v0 : Option Nat} {v1 : Int32} {v2 : Int32} {v3 : Int32} {v4 : Int32} {p : LH}, k3 A v0 v1 v2 v3 v4 = some p → V g m_X11_move 0 n0 z0 none p A 3 [some (LR v0), some (LI v1), some (LI v2), some (LI v3), some (LI v4)] []) (h : b_X11_move_3 N k3 A v0 v1 v2 v3 v4 = some p) : V g m_X11_move 0 n0 z0 none p A 3 [some (LR v0), some (LI v1), some (LI v2), some (LI v3), some (LI v4)] [] := by
  unfold b_X11_move_3 at h
  refine V.iload dX11_move_3 rfl ?_
  refine V.iload_n dX11_move_5 rfl rfl ?_
  refine V.icmp_ge (tgt := 31) dX11_move_6 (by decide) (fun c1 => ?_) (fun c1 => ?_)
  · have h := (if_pos c1).symm.trans h
    obtain rfl := Option.some.inj h
    exact V.return_ dX11_move_31
  · have h := (if_neg c1).symm.trans h
    refine V.aload_n dX11_move_9 rfl rfl ?_
    refine V.iload_n dX11_move_10 rfl rfl ?_
    refine V.iload_n dX11_move_11 rfl rfl ?_
    refine V.imul dX11_move_12 ?_
    refine V.iload dX11_move_13 rfl ?_
    refine V.iadd dX11_move_15 ?_
    refine V.aload_n dX11_move_16 rfl rfl ?_
    refine V.iload_n dX11_move_17 rfl rfl ?_
    refine V.iload_n dX11_move_18 rfl rfl ?_
    refine V.imul dX11_move_19 ?_
    refine V.iload dX11_move_20 rfl ?_
    refine V.iadd dX11_move_22 ?_
    obtain ⟨x2, h3, h⟩ := bnd h
    refine V.iald h3 dX11_move_23 ?_
    obtain ⟨A4, h5, h⟩ := bnd h
    refine V.iast h5 dX11_move_24 ?_
    refine V.iinc (ls' := [some (LR v0), some (LI v1), some (LI v2), some (LI v3), some (LI (v4 + (1 : Int32)))]) dX11_move_25 rfl ki_1 (by decide) rfl rfl ?_
    refine V.goto (tgt := 3) dX11_move_28 (by decide) ?_
    refine V.weak [true, true, true, true, true] ?_
    exact hk3 h
def l_X11_move_3 (N : Nat) : Nat → LH → Option Nat → Int32 → Int32 → Int32 → Int32 → Option (LH)
  | 0, _, _, _, _, _, _ => none
  | n + 1, A, v0, v1, v2, v3, v4 => b_X11_move_3 N (l_X11_move_3 N n) A v0 v1 v2 v3 v4
theorem wl_X11_move_3 {g : GG} {n0 z0 : Nat} (N : Nat) : ∀ (n : Nat) {A : LH} {v0 : Option Nat} {v1 : Int32} {v2 : Int32} {v3 : Int32} {v4 : Int32} {p : LH}, l_X11_move_3 N n A v0 v1 v2 v3 v4 = some p → V g m_X11_move 0 n0 z0 none p A 3 [some (LR v0), some (LI v1), some (LI v2), some (LI v3), some (LI v4)] []
  | 0, _, _, _, _, _, _, _, h => nomatch h
  | n + 1, _, _, _, _, _, _, _, h => wb_X11_move_3 N (wl_X11_move_3 N n) h
def b_X11_move (N : Nat) (A : LH) (v0 : Option Nat) (v1 : Int32) (v2 : Int32) (v3 : Int32) : Option (LH) :=
  l_X11_move_3 N N A v0 v1 v2 v3 (0 : Int32)
set_option maxRecDepth 4000 in
theorem wb_X11_move {g : GG} {n0 z0 : Nat} (N : Nat) {A : LH} {v0 : Option Nat} {v1 : Int32} {v2 : Int32} {v3 : Int32} {p : LH} (h : b_X11_move N A v0 v1 v2 v3 = some p) : V g m_X11_move 0 n0 z0 none p A 0 [some (LR v0), some (LI v1), some (LI v2), some (LI v3)] [] := by
  unfold b_X11_move at h
  refine V.iconst dX11_move_0 ki_0 ?_
  refine V.istore (ls' := [some (LR v0), some (LI v1), some (LI v2), some (LI v3), some (LI (0 : Int32))]) dX11_move_1 (by decide) rfl rfl ?_
  refine V.weak [true, true, true, true, true] ?_
  exact wl_X11_move_3 N N h
def f_X11_move (N : Nat) (A : LH) (v0 : Option Nat) (v1 : Int32) (v2 : Int32) (v3 : Int32) : Option (LH) := b_X11_move N A v0 v1 v2 v3
theorem w_X11_move {g : GG} (N : Nat) {A : LH} {v0 : Option Nat} {v1 : Int32} {v2 : Int32} {v3 : Int32} {p : LH} (h : f_X11_move N A v0 v1 v2 v3 = some p) : Ct g m_X11_move 0 [LR v0, LI v1, LI v2, LI v3] A none p := by
  unfold f_X11_move at h
  exact ⟨wb_X11_move N h, trivial⟩
def b_X11_copy_155 (N : Nat) (k155 : LH → Option Nat → Int32 → Int32 → Int32 → Option (LH)) (A : LH) (v0 : Option Nat) (v1 : Int32) (v2 : Int32) (v3 : Int32) : Option (LH) :=
  if (3600 : Int32) ≤ v3 then some A else (gR A v0 11 16).bind fun x72 => (gR A v0 11 16).bind fun x74 => (aI A x74 1 (((3600 : Int32) * v1) + v3)).bind fun x76 => (sI A x72 1 (((3600 : Int32) * v2) + v3) (x76).toInt8.toInt32).bind fun A78 => k155 A78 v0 v1 v2 (v3 + (1 : Int32))
set_option maxRecDepth 4000 in
theorem wb_X11_copy_155 {g : GG} {n0 z0 : Nat} (N : Nat) {k155 : LH → Option Nat → Int32 → Int32 → Int32 → Option (LH)} {A : LH} {v0 : Option Nat} {v1 : Int32} {v2 : Int32} {v3 : Int32} {p : LH} (hk155 : ∀ {A : LH} {v0 : Option Nat} {v1 : Int32} {v2 : Int32} {v3 : Int32} {p : LH}, k155 A v0 v1 v2 v3 = some p → V g m_X11_copy 1 n0 z0 none p A 155 [some (LR v0), some (LI v1), some (LI v2), some (LI v3)] []) (h : b_X11_copy_155 N k155 A v0 v1 v2 v3 = some p) : V g m_X11_copy 1 n0 z0 none p A 155 [some (LR v0), some (LI v1), some (LI v2), some (LI v3)] [] := by
  unfold b_X11_copy_155 at h
  refine V.iload_n dX11_copy_155 rfl rfl ?_
  refine V.sipush dX11_copy_156 ks_3600 ?_
  refine V.icmp_ge (tgt := 192) dX11_copy_159 (by decide) (fun c71 => ?_) (fun c71 => ?_)
  · have h := (if_pos c71).symm.trans h
    obtain rfl := Option.some.inj h
    exact V.return_ dX11_copy_192
  · have h := (if_neg c71).symm.trans h
    refine V.aload_n dX11_copy_162 rfl rfl ?_
    obtain ⟨x72, h73, h⟩ := bnd h
    refine V.getF (gR_F h73) CF11 (Nat.le_of_ble_eq_true rfl) fl_RX11_53 dX11_copy_163 ?_
    refine V.sipush dX11_copy_166 ks_3600 ?_
    refine V.iload_n dX11_copy_169 rfl rfl ?_
    refine V.imul dX11_copy_170 ?_
    refine V.iload_n dX11_copy_171 rfl rfl ?_
    refine V.iadd dX11_copy_172 ?_
    refine V.aload_n dX11_copy_173 rfl rfl ?_
    obtain ⟨x74, h75, h⟩ := bnd h
    refine V.getF (gR_F h75) CF11 (Nat.le_of_ble_eq_true rfl) fl_RX11_53 dX11_copy_174 ?_
    refine V.sipush dX11_copy_177 ks_3600 ?_
    refine V.iload_n dX11_copy_180 rfl rfl ?_
    refine V.imul dX11_copy_181 ?_
    refine V.iload_n dX11_copy_182 rfl rfl ?_
    refine V.iadd dX11_copy_183 ?_
    obtain ⟨x76, h77, h⟩ := bnd h
    refine V.bald h77 dX11_copy_184 ?_
    obtain ⟨A78, h79, h⟩ := bnd h
    refine V.bast h79 dX11_copy_185 ?_
    refine V.iinc (ls' := [some (LR v0), some (LI v1), some (LI v2), some (LI (v3 + (1 : Int32)))]) dX11_copy_186 rfl ki_1 (by decide) rfl rfl ?_
    refine V.goto (tgt := 155) dX11_copy_189 (by decide) ?_
    refine V.weak [true, true, true, true] ?_
    exact hk155 h
def l_X11_copy_155 (N : Nat) : Nat → LH → Option Nat → Int32 → Int32 → Int32 → Option (LH)
  | 0, _, _, _, _, _ => none
  | n + 1, A, v0, v1, v2, v3 => b_X11_copy_155 N (l_X11_copy_155 N n) A v0 v1 v2 v3
theorem wl_X11_copy_155 {g : GG} {n0 z0 : Nat} (N : Nat) : ∀ (n : Nat) {A : LH} {v0 : Option Nat} {v1 : Int32} {v2 : Int32} {v3 : Int32} {p : LH}, l_X11_copy_155 N n A v0 v1 v2 v3 = some p → V g m_X11_copy 1 n0 z0 none p A 155 [some (LR v0), some (LI v1), some (LI v2), some (LI v3)] []
  | 0, _, _, _, _, _, _, h => nomatch h
  | n + 1, _, _, _, _, _, _, h => wb_X11_copy_155 N (wl_X11_copy_155 N n) h
def b_X11_copy (N : Nat) (A : LH) (v0 : Option Nat) (v1 : Int32) (v2 : Int32) : Option (LH) :=
  (gR A v0 11 3).bind fun x1 => (f_X11_move N A x1 (1 : Int32) v1 v2).bind fun p3 => (gR p3 v0 11 4).bind fun x6 => (f_X11_move N p3 x6 (16 : Int32) v1 v2).bind fun p8 => (gR p8 v0 11 5).bind fun x11 => (f_X11_move N p8 x11 (16 : Int32) v1 v2).bind fun p13 => (gR p13 v0 11 6).bind fun x16 => (f_X11_move N p13 x16 (1 : Int32) v1 v2).bind fun p18 => (gR p18 v0 11 7).bind fun x21 => (f_X11_move N p18 x21 (16 : Int32) v1 v2).bind fun p23 => (gR p23 v0 11 8).bind fun x26 => (f_X11_move N p23 x26 (16 : Int32) v1 v2).bind fun p28 => (gR p28 v0 11 9).bind fun x31 => (f_X11_move N p28 x31 (16 : Int32) v1 v2).bind fun p33 => (gR p33 v0 11 10).bind fun x36 => (f_X11_move N p33 x36 (1 : Int32) v1 v2).bind fun p38 => (gR p38 v0 11 11).bind fun x41 => (f_X11_move N p38 x41 (800 : Int32) v1 v2).bind fun p43 => (gR p43 v0 11 12).bind fun x46 => (f_X11_move N p43 x46 (200 : Int32) v1 v2).bind fun p48 => (gR p48 v0 11 13).bind fun x51 => (f_X11_move N p48 x51 (4 : Int32) v1 v2).bind fun p53 => (gR p53 v0 11 14).bind fun x56 => (f_X11_move N p53 x56 (4 : Int32) v1 v2).bind fun p58 => (gR p58 v0 11 15).bind fun x61 => (f_X11_move N p58 x61 (384 : Int32) v1 v2).bind fun p63 => (gR p63 v0 11 17).bind fun x66 => (f_X11_move N p63 x66 (3600 : Int32) v1 v2).bind fun p68 => l_X11_copy_155 N N p68 v0 v1 v2 (0 : Int32)
set_option maxRecDepth 4000 in
theorem wb_X11_copy {g : GG} {n0 z0 : Nat} (N : Nat) {A : LH} {v0 : Option Nat} {v1 : Int32} {v2 : Int32} {p : LH} (h : b_X11_copy N A v0 v1 v2 = some p) : V g m_X11_copy 1 n0 z0 none p A 0 [some (LR v0), some (LI v1), some (LI v2)] [] := by
  unfold b_X11_copy at h
  refine V.aload_n dX11_copy_0 rfl rfl ?_
  obtain ⟨x1, h2, h⟩ := bnd h
  refine V.getF (gR_F h2) CF11 (Nat.le_of_ble_eq_true rfl) fl_RX11_13 dX11_copy_1 ?_
  refine V.iconst dX11_copy_4 ki_1 ?_
  refine V.iload_n dX11_copy_5 rfl rfl ?_
  refine V.iload_n dX11_copy_6 rfl rfl ?_
  obtain ⟨p3, h4, h⟩ := bnd h
  have w5 := w_X11_move (g := g) N h4
  refine V.callSv (args := [LR x1, LI (1 : Int32), LI v1, LI v2]) (st := []) w5.1 mk_X11_move w5.2 ml_RX11_97 sm_X11_move rfl (Nat.le_of_ble_eq_true rfl) (by decide) rfl (Nat.le_of_ble_eq_true rfl) dX11_copy_7 ?_
  refine V.aload_n dX11_copy_10 rfl rfl ?_
  obtain ⟨x6, h7, h⟩ := bnd h
  refine V.getF (gR_F h7) CF11 (Nat.le_of_ble_eq_true rfl) fl_RX11_17 dX11_copy_11 ?_
  refine V.bipush dX11_copy_14 kb_16 ?_
  refine V.iload_n dX11_copy_16 rfl rfl ?_
  refine V.iload_n dX11_copy_17 rfl rfl ?_
  obtain ⟨p8, h9, h⟩ := bnd h
  have w10 := w_X11_move (g := g) N h9
  refine V.callSv (args := [LR x6, LI (16 : Int32), LI v1, LI v2]) (st := []) w10.1 mk_X11_move w10.2 ml_RX11_97 sm_X11_move rfl (Nat.le_of_ble_eq_true rfl) (by decide) rfl (Nat.le_of_ble_eq_true rfl) dX11_copy_18 ?_
  refine V.aload_n dX11_copy_21 rfl rfl ?_
  obtain ⟨x11, h12, h⟩ := bnd h
  refine V.getF (gR_F h12) CF11 (Nat.le_of_ble_eq_true rfl) fl_RX11_20 dX11_copy_22 ?_
  refine V.bipush dX11_copy_25 kb_16 ?_
  refine V.iload_n dX11_copy_27 rfl rfl ?_
  refine V.iload_n dX11_copy_28 rfl rfl ?_
  obtain ⟨p13, h14, h⟩ := bnd h
  have w15 := w_X11_move (g := g) N h14
  refine V.callSv (args := [LR x11, LI (16 : Int32), LI v1, LI v2]) (st := []) w15.1 mk_X11_move w15.2 ml_RX11_97 sm_X11_move rfl (Nat.le_of_ble_eq_true rfl) (by decide) rfl (Nat.le_of_ble_eq_true rfl) dX11_copy_29 ?_
  refine V.aload_n dX11_copy_32 rfl rfl ?_
  obtain ⟨x16, h17, h⟩ := bnd h
  refine V.getF (gR_F h17) CF11 (Nat.le_of_ble_eq_true rfl) fl_RX11_23 dX11_copy_33 ?_
  refine V.iconst dX11_copy_36 ki_1 ?_
  refine V.iload_n dX11_copy_37 rfl rfl ?_
  refine V.iload_n dX11_copy_38 rfl rfl ?_
  obtain ⟨p18, h19, h⟩ := bnd h
  have w20 := w_X11_move (g := g) N h19
  refine V.callSv (args := [LR x16, LI (1 : Int32), LI v1, LI v2]) (st := []) w20.1 mk_X11_move w20.2 ml_RX11_97 sm_X11_move rfl (Nat.le_of_ble_eq_true rfl) (by decide) rfl (Nat.le_of_ble_eq_true rfl) dX11_copy_39 ?_
  refine V.aload_n dX11_copy_42 rfl rfl ?_
  obtain ⟨x21, h22, h⟩ := bnd h
  refine V.getF (gR_F h22) CF11 (Nat.le_of_ble_eq_true rfl) fl_RX11_26 dX11_copy_43 ?_
  refine V.bipush dX11_copy_46 kb_16 ?_
  refine V.iload_n dX11_copy_48 rfl rfl ?_
  refine V.iload_n dX11_copy_49 rfl rfl ?_
  obtain ⟨p23, h24, h⟩ := bnd h
  have w25 := w_X11_move (g := g) N h24
  refine V.callSv (args := [LR x21, LI (16 : Int32), LI v1, LI v2]) (st := []) w25.1 mk_X11_move w25.2 ml_RX11_97 sm_X11_move rfl (Nat.le_of_ble_eq_true rfl) (by decide) rfl (Nat.le_of_ble_eq_true rfl) dX11_copy_50 ?_
  refine V.aload_n dX11_copy_53 rfl rfl ?_
  obtain ⟨x26, h27, h⟩ := bnd h
  refine V.getF (gR_F h27) CF11 (Nat.le_of_ble_eq_true rfl) fl_RX11_29 dX11_copy_54 ?_
  refine V.bipush dX11_copy_57 kb_16 ?_
  refine V.iload_n dX11_copy_59 rfl rfl ?_
  refine V.iload_n dX11_copy_60 rfl rfl ?_
  obtain ⟨p28, h29, h⟩ := bnd h
  have w30 := w_X11_move (g := g) N h29
  refine V.callSv (args := [LR x26, LI (16 : Int32), LI v1, LI v2]) (st := []) w30.1 mk_X11_move w30.2 ml_RX11_97 sm_X11_move rfl (Nat.le_of_ble_eq_true rfl) (by decide) rfl (Nat.le_of_ble_eq_true rfl) dX11_copy_61 ?_
  refine V.aload_n dX11_copy_64 rfl rfl ?_
  obtain ⟨x31, h32, h⟩ := bnd h
  refine V.getF (gR_F h32) CF11 (Nat.le_of_ble_eq_true rfl) fl_RX11_32 dX11_copy_65 ?_
  refine V.bipush dX11_copy_68 kb_16 ?_
  refine V.iload_n dX11_copy_70 rfl rfl ?_
  refine V.iload_n dX11_copy_71 rfl rfl ?_
  obtain ⟨p33, h34, h⟩ := bnd h
  have w35 := w_X11_move (g := g) N h34
  refine V.callSv (args := [LR x31, LI (16 : Int32), LI v1, LI v2]) (st := []) w35.1 mk_X11_move w35.2 ml_RX11_97 sm_X11_move rfl (Nat.le_of_ble_eq_true rfl) (by decide) rfl (Nat.le_of_ble_eq_true rfl) dX11_copy_72 ?_
  refine V.aload_n dX11_copy_75 rfl rfl ?_
  obtain ⟨x36, h37, h⟩ := bnd h
  refine V.getF (gR_F h37) CF11 (Nat.le_of_ble_eq_true rfl) fl_RX11_35 dX11_copy_76 ?_
  refine V.iconst dX11_copy_79 ki_1 ?_
  refine V.iload_n dX11_copy_80 rfl rfl ?_
  refine V.iload_n dX11_copy_81 rfl rfl ?_
  obtain ⟨p38, h39, h⟩ := bnd h
  have w40 := w_X11_move (g := g) N h39
  refine V.callSv (args := [LR x36, LI (1 : Int32), LI v1, LI v2]) (st := []) w40.1 mk_X11_move w40.2 ml_RX11_97 sm_X11_move rfl (Nat.le_of_ble_eq_true rfl) (by decide) rfl (Nat.le_of_ble_eq_true rfl) dX11_copy_82 ?_
  refine V.aload_n dX11_copy_85 rfl rfl ?_
  obtain ⟨x41, h42, h⟩ := bnd h
  refine V.getF (gR_F h42) CF11 (Nat.le_of_ble_eq_true rfl) fl_RX11_38 dX11_copy_86 ?_
  refine V.sipush dX11_copy_89 ks_800 ?_
  refine V.iload_n dX11_copy_92 rfl rfl ?_
  refine V.iload_n dX11_copy_93 rfl rfl ?_
  obtain ⟨p43, h44, h⟩ := bnd h
  have w45 := w_X11_move (g := g) N h44
  refine V.callSv (args := [LR x41, LI (800 : Int32), LI v1, LI v2]) (st := []) w45.1 mk_X11_move w45.2 ml_RX11_97 sm_X11_move rfl (Nat.le_of_ble_eq_true rfl) (by decide) rfl (Nat.le_of_ble_eq_true rfl) dX11_copy_94 ?_
  refine V.aload_n dX11_copy_97 rfl rfl ?_
  obtain ⟨x46, h47, h⟩ := bnd h
  refine V.getF (gR_F h47) CF11 (Nat.le_of_ble_eq_true rfl) fl_RX11_41 dX11_copy_98 ?_
  refine V.sipush dX11_copy_101 ks_200 ?_
  refine V.iload_n dX11_copy_104 rfl rfl ?_
  refine V.iload_n dX11_copy_105 rfl rfl ?_
  obtain ⟨p48, h49, h⟩ := bnd h
  have w50 := w_X11_move (g := g) N h49
  refine V.callSv (args := [LR x46, LI (200 : Int32), LI v1, LI v2]) (st := []) w50.1 mk_X11_move w50.2 ml_RX11_97 sm_X11_move rfl (Nat.le_of_ble_eq_true rfl) (by decide) rfl (Nat.le_of_ble_eq_true rfl) dX11_copy_106 ?_
  refine V.aload_n dX11_copy_109 rfl rfl ?_
  obtain ⟨x51, h52, h⟩ := bnd h
  refine V.getF (gR_F h52) CF11 (Nat.le_of_ble_eq_true rfl) fl_RX11_44 dX11_copy_110 ?_
  refine V.iconst dX11_copy_113 ki_4 ?_
  refine V.iload_n dX11_copy_114 rfl rfl ?_
  refine V.iload_n dX11_copy_115 rfl rfl ?_
  obtain ⟨p53, h54, h⟩ := bnd h
  have w55 := w_X11_move (g := g) N h54
  refine V.callSv (args := [LR x51, LI (4 : Int32), LI v1, LI v2]) (st := []) w55.1 mk_X11_move w55.2 ml_RX11_97 sm_X11_move rfl (Nat.le_of_ble_eq_true rfl) (by decide) rfl (Nat.le_of_ble_eq_true rfl) dX11_copy_116 ?_
  refine V.aload_n dX11_copy_119 rfl rfl ?_
  obtain ⟨x56, h57, h⟩ := bnd h
  refine V.getF (gR_F h57) CF11 (Nat.le_of_ble_eq_true rfl) fl_RX11_47 dX11_copy_120 ?_
  refine V.iconst dX11_copy_123 ki_4 ?_
  refine V.iload_n dX11_copy_124 rfl rfl ?_
  refine V.iload_n dX11_copy_125 rfl rfl ?_
  obtain ⟨p58, h59, h⟩ := bnd h
  have w60 := w_X11_move (g := g) N h59
  refine V.callSv (args := [LR x56, LI (4 : Int32), LI v1, LI v2]) (st := []) w60.1 mk_X11_move w60.2 ml_RX11_97 sm_X11_move rfl (Nat.le_of_ble_eq_true rfl) (by decide) rfl (Nat.le_of_ble_eq_true rfl) dX11_copy_126 ?_
  refine V.aload_n dX11_copy_129 rfl rfl ?_
  obtain ⟨x61, h62, h⟩ := bnd h
  refine V.getF (gR_F h62) CF11 (Nat.le_of_ble_eq_true rfl) fl_RX11_50 dX11_copy_130 ?_
  refine V.sipush dX11_copy_133 ks_384 ?_
  refine V.iload_n dX11_copy_136 rfl rfl ?_
  refine V.iload_n dX11_copy_137 rfl rfl ?_
  obtain ⟨p63, h64, h⟩ := bnd h
  have w65 := w_X11_move (g := g) N h64
  refine V.callSv (args := [LR x61, LI (384 : Int32), LI v1, LI v2]) (st := []) w65.1 mk_X11_move w65.2 ml_RX11_97 sm_X11_move rfl (Nat.le_of_ble_eq_true rfl) (by decide) rfl (Nat.le_of_ble_eq_true rfl) dX11_copy_138 ?_
  refine V.aload_n dX11_copy_141 rfl rfl ?_
  obtain ⟨x66, h67, h⟩ := bnd h
  refine V.getF (gR_F h67) CF11 (Nat.le_of_ble_eq_true rfl) fl_RX11_56 dX11_copy_142 ?_
  refine V.sipush dX11_copy_145 ks_3600 ?_
  refine V.iload_n dX11_copy_148 rfl rfl ?_
  refine V.iload_n dX11_copy_149 rfl rfl ?_
  obtain ⟨p68, h69, h⟩ := bnd h
  have w70 := w_X11_move (g := g) N h69
  refine V.callSv (args := [LR x66, LI (3600 : Int32), LI v1, LI v2]) (st := []) w70.1 mk_X11_move w70.2 ml_RX11_97 sm_X11_move rfl (Nat.le_of_ble_eq_true rfl) (by decide) rfl (Nat.le_of_ble_eq_true rfl) dX11_copy_150 ?_
  refine V.iconst dX11_copy_153 ki_0 ?_
  refine V.istore_n (ls' := [some (LR v0), some (LI v1), some (LI v2), some (LI (0 : Int32))]) dX11_copy_154 rfl (by decide) rfl rfl ?_
  refine V.weak [true, true, true, true] ?_
  exact wl_X11_copy_155 N N h
def f_X11_copy (N : Nat) (A : LH) (v0 : Option Nat) (v1 : Int32) (v2 : Int32) : Option (LH) := if isO A v0 11 = true then b_X11_copy N A v0 v1 v2 else none
theorem w_X11_copy {g : GG} (N : Nat) {A : LH} {v0 : Option Nat} {v1 : Int32} {v2 : Int32} {p : LH} (h : f_X11_copy N A v0 v1 v2 = some p) : Ct g m_X11_copy 1 [LR v0, LI v1, LI v2] A none p := by
  unfold f_X11_copy at h
  obtain ⟨ho, h⟩ := ifN h
  exact ⟨wb_X11_copy N h, trivial⟩
theorem oo_X11_copy {N : Nat} {A : LH} {v0 : Option Nat} {v1 : Int32} {v2 : Int32} {p : LH} (h : f_X11_copy N A v0 v1 v2 = some p) : isO A v0 11 = true := by unfold f_X11_copy at h; exact (ifN h).1
def b_X11_four_3 (N : Nat) (k3 : LH → Option Nat → Int32 → Int32 → Option (LH)) (A : LH) (v0 : Option Nat) (v1 : Int32) (v2 : Int32) : Option (LH) :=
  if v2 < 0 then some A else (gR A v0 11 1).bind fun x2 => (gI A v0 11 2).bind fun x4 => (sI A x2 1 x4 (((v1 >>> (v2 &&& 31))).toInt8.toInt32).toInt8.toInt32).bind fun A6 => (gI A6 v0 11 2).bind fun x8 => (pF A6 v0 11 2 (LI (x8 + (1 : Int32)))).bind fun A10 => k3 A10 v0 v1 (v2 + (-8 : Int32))
set_option maxRecDepth 4000 in
theorem wb_X11_four_3 {g : GG} {n0 z0 : Nat} (N : Nat) {k3 : LH → Option Nat → Int32 → Int32 → Option (LH)} {A : LH} {v0 : Option Nat} {v1 : Int32} {v2 : Int32} {p : LH} (hk3 : ∀ {A : LH} {v0 : Option Nat} {v1 : Int32} {v2 : Int32} {p : LH}, k3 A v0 v1 v2 = some p → V g m_X11_four 0 n0 z0 none p A 3 [some (LR v0), some (LI v1), some (LI v2)] []) (h : b_X11_four_3 N k3 A v0 v1 v2 = some p) : V g m_X11_four 0 n0 z0 none p A 3 [some (LR v0), some (LI v1), some (LI v2)] [] := by
  unfold b_X11_four_3 at h
  refine V.iload_n dX11_four_3 rfl rfl ?_
  refine V.if_lt (tgt := 36) dX11_four_4 (by decide) (fun c1 => ?_) (fun c1 => ?_)
  · have h := (if_pos c1).symm.trans h
    obtain rfl := Option.some.inj h
    exact V.return_ dX11_four_36
  · have h := (if_neg c1).symm.trans h
    refine V.aload_n dX11_four_7 rfl rfl ?_
    obtain ⟨x2, h3, h⟩ := bnd h
    refine V.getF (gR_F h3) CF11 (Nat.le_of_ble_eq_true rfl) fl_RX11_7 dX11_four_8 ?_
    refine V.aload_n dX11_four_11 rfl rfl ?_
    obtain ⟨x4, h5, h⟩ := bnd h
    refine V.getF (gI_F h5) CF11 (Nat.le_of_ble_eq_true rfl) fl_RX11_101 dX11_four_12 ?_
    refine V.iload_n dX11_four_15 rfl rfl ?_
    refine V.iload_n dX11_four_16 rfl rfl ?_
    refine V.ishr dX11_four_17 ?_
    refine V.i2b dX11_four_18 ?_
    obtain ⟨A6, h7, h⟩ := bnd h
    refine V.bast h7 dX11_four_19 ?_
    refine V.aload_n dX11_four_20 rfl rfl ?_
    refine V.dup dX11_four_21 rfl ?_
    obtain ⟨x8, h9, h⟩ := bnd h
    refine V.getF (gI_F h9) CF11 (Nat.le_of_ble_eq_true rfl) fl_RX11_101 dX11_four_22 ?_
    refine V.iconst dX11_four_25 ki_1 ?_
    refine V.iadd dX11_four_26 ?_
    obtain ⟨A10, h11, h⟩ := bnd h
    refine V.putF h11 rfl rfl rfl CF11 (Nat.le_of_ble_eq_true rfl) fl_RX11_101 dX11_four_27 ?_
    refine V.iinc (ls' := [some (LR v0), some (LI v1), some (LI (v2 + (-8 : Int32)))]) dX11_four_30 rfl ki_m8 (by decide) rfl rfl ?_
    refine V.goto (tgt := 3) dX11_four_33 (by decide) ?_
    refine V.weak [true, true, true] ?_
    exact hk3 h
def l_X11_four_3 (N : Nat) : Nat → LH → Option Nat → Int32 → Int32 → Option (LH)
  | 0, _, _, _, _ => none
  | n + 1, A, v0, v1, v2 => b_X11_four_3 N (l_X11_four_3 N n) A v0 v1 v2
theorem wl_X11_four_3 {g : GG} {n0 z0 : Nat} (N : Nat) : ∀ (n : Nat) {A : LH} {v0 : Option Nat} {v1 : Int32} {v2 : Int32} {p : LH}, l_X11_four_3 N n A v0 v1 v2 = some p → V g m_X11_four 0 n0 z0 none p A 3 [some (LR v0), some (LI v1), some (LI v2)] []
  | 0, _, _, _, _, _, h => nomatch h
  | n + 1, _, _, _, _, _, h => wb_X11_four_3 N (wl_X11_four_3 N n) h
def b_X11_four (N : Nat) (A : LH) (v0 : Option Nat) (v1 : Int32) : Option (LH) :=
  l_X11_four_3 N N A v0 v1 (24 : Int32)
set_option maxRecDepth 4000 in
theorem wb_X11_four {g : GG} {n0 z0 : Nat} (N : Nat) {A : LH} {v0 : Option Nat} {v1 : Int32} {p : LH} (h : b_X11_four N A v0 v1 = some p) : V g m_X11_four 0 n0 z0 none p A 0 [some (LR v0), some (LI v1)] [] := by
  unfold b_X11_four at h
  refine V.bipush dX11_four_0 kb_24 ?_
  refine V.istore_n (ls' := [some (LR v0), some (LI v1), some (LI (24 : Int32))]) dX11_four_2 rfl (by decide) rfl rfl ?_
  refine V.weak [true, true, true] ?_
  exact wl_X11_four_3 N N h
def f_X11_four (N : Nat) (A : LH) (v0 : Option Nat) (v1 : Int32) : Option (LH) := if isO A v0 11 = true then b_X11_four N A v0 v1 else none
theorem w_X11_four {g : GG} (N : Nat) {A : LH} {v0 : Option Nat} {v1 : Int32} {p : LH} (h : f_X11_four N A v0 v1 = some p) : Ct g m_X11_four 0 [LR v0, LI v1] A none p := by
  unfold f_X11_four at h
  obtain ⟨ho, h⟩ := ifN h
  exact ⟨wb_X11_four N h, trivial⟩
theorem oo_X11_four {N : Nat} {A : LH} {v0 : Option Nat} {v1 : Int32} {p : LH} (h : f_X11_four N A v0 v1 = some p) : isO A v0 11 = true := by unfold f_X11_four at h; exact (ifN h).1
def b_X11_feed (N : Nat) (A : LH) (v0 : Option Nat) (v1 : Int32) (v2 : Int32) (v3 : Int32) (v4 : Int32) (v5 : Int32) : Option (Int32 × LH) :=
  (pF A v0 11 0 (LI (0 : Int32))).bind fun A1 => (gI A1 v0 11 2).bind fun x3 => if (x3 + (20 : Int32)) ≤ (600 : Int32) then (f_X11_four N A1 v0 v1).bind fun p6 => (f_X11_four N p6 v0 v2).bind fun p9 => (f_X11_four N p9 v0 v3).bind fun p12 => (f_X11_four N p12 v0 v4).bind fun p15 => (f_X11_four N p15 v0 v5).bind fun p18 => (gI p18 v0 11 2).bind fun x21 => some (x21, p18) else some ((-1 : Int32), A1)
set_option maxRecDepth 4000 in
theorem wb_X11_feed {g : GG} {n0 z0 : Nat} (N : Nat) {A : LH} {v0 : Option Nat} {v1 : Int32} {v2 : Int32} {v3 : Int32} {v4 : Int32} {v5 : Int32} {p : Int32 × LH} (h : b_X11_feed N A v0 v1 v2 v3 v4 v5 = some p) : V g m_X11_feed 1 n0 z0 (some (LI p.1)) p.2 A 0 [some (LR v0), some (LI v1), some (LI v2), some (LI v3), some (LI v4), some (LI v5)] [] := by
  unfold b_X11_feed at h
  refine V.aload_n dX11_feed_0 rfl rfl ?_
  refine V.iconst dX11_feed_1 ki_0 ?_
  obtain ⟨A1, h2, h⟩ := bnd h
  refine V.putF h2 rfl rfl rfl CF11 (Nat.le_of_ble_eq_true rfl) fl_RX11_94 dX11_feed_2 ?_
  refine V.aload_n dX11_feed_5 rfl rfl ?_
  obtain ⟨x3, h4, h⟩ := bnd h
  refine V.getF (gI_F h4) CF11 (Nat.le_of_ble_eq_true rfl) fl_RX11_101 dX11_feed_6 ?_
  refine V.bipush dX11_feed_9 kb_20 ?_
  refine V.iadd dX11_feed_11 ?_
  refine V.sipush dX11_feed_12 ks_600 ?_
  refine V.icmp_le (tgt := 20) dX11_feed_15 (by decide) (fun c5 => ?_) (fun c5 => ?_)
  · have h := (if_pos c5).symm.trans h
    refine V.aload_n dX11_feed_20 rfl rfl ?_
    refine V.iload_n dX11_feed_21 rfl rfl ?_
    obtain ⟨p6, h7, h⟩ := bnd h
    have w8 := w_X11_four (g := g) N h7
    refine V.callVv (args := [LI v1]) (st := []) w8.1 (oo_X11_four h7) mk_X11_four w8.2 vc_11 ml_RX11_104 im_X11_four se_X11_four rfl (Nat.le_of_ble_eq_true rfl) (by decide) rfl (Nat.le_of_ble_eq_true rfl) dX11_feed_22 ?_
    refine V.aload_n dX11_feed_25 rfl rfl ?_
    refine V.iload_n dX11_feed_26 rfl rfl ?_
    obtain ⟨p9, h10, h⟩ := bnd h
    have w11 := w_X11_four (g := g) N h10
    refine V.callVv (args := [LI v2]) (st := []) w11.1 (oo_X11_four h10) mk_X11_four w11.2 vc_11 ml_RX11_104 im_X11_four se_X11_four rfl (Nat.le_of_ble_eq_true rfl) (by decide) rfl (Nat.le_of_ble_eq_true rfl) dX11_feed_27 ?_
    refine V.aload_n dX11_feed_30 rfl rfl ?_
    refine V.iload_n dX11_feed_31 rfl rfl ?_
    obtain ⟨p12, h13, h⟩ := bnd h
    have w14 := w_X11_four (g := g) N h13
    refine V.callVv (args := [LI v3]) (st := []) w14.1 (oo_X11_four h13) mk_X11_four w14.2 vc_11 ml_RX11_104 im_X11_four se_X11_four rfl (Nat.le_of_ble_eq_true rfl) (by decide) rfl (Nat.le_of_ble_eq_true rfl) dX11_feed_32 ?_
    refine V.aload_n dX11_feed_35 rfl rfl ?_
    refine V.iload dX11_feed_36 rfl ?_
    obtain ⟨p15, h16, h⟩ := bnd h
    have w17 := w_X11_four (g := g) N h16
    refine V.callVv (args := [LI v4]) (st := []) w17.1 (oo_X11_four h16) mk_X11_four w17.2 vc_11 ml_RX11_104 im_X11_four se_X11_four rfl (Nat.le_of_ble_eq_true rfl) (by decide) rfl (Nat.le_of_ble_eq_true rfl) dX11_feed_38 ?_
    refine V.aload_n dX11_feed_41 rfl rfl ?_
    refine V.iload dX11_feed_42 rfl ?_
    obtain ⟨p18, h19, h⟩ := bnd h
    have w20 := w_X11_four (g := g) N h19
    refine V.callVv (args := [LI v5]) (st := []) w20.1 (oo_X11_four h19) mk_X11_four w20.2 vc_11 ml_RX11_104 im_X11_four se_X11_four rfl (Nat.le_of_ble_eq_true rfl) (by decide) rfl (Nat.le_of_ble_eq_true rfl) dX11_feed_44 ?_
    refine V.aload_n dX11_feed_47 rfl rfl ?_
    obtain ⟨x21, h22, h⟩ := bnd h
    refine V.getF (gI_F h22) CF11 (Nat.le_of_ble_eq_true rfl) fl_RX11_101 dX11_feed_48 ?_
    obtain rfl := Option.some.inj h
    exact V.ireturn dX11_feed_51
  · have h := (if_neg c5).symm.trans h
    refine V.iconst dX11_feed_18 ki_m1 ?_
    obtain rfl := Option.some.inj h
    exact V.ireturn dX11_feed_19
def f_X11_feed (N : Nat) (A : LH) (v0 : Option Nat) (v1 : Int32) (v2 : Int32) (v3 : Int32) (v4 : Int32) (v5 : Int32) : Option (Int32 × LH) := if isO A v0 11 = true then b_X11_feed N A v0 v1 v2 v3 v4 v5 else none
theorem w_X11_feed {g : GG} (N : Nat) {A : LH} {v0 : Option Nat} {v1 : Int32} {v2 : Int32} {v3 : Int32} {v4 : Int32} {v5 : Int32} {p : Int32 × LH} (h : f_X11_feed N A v0 v1 v2 v3 v4 v5 = some p) : Ct g m_X11_feed 1 [LR v0, LI v1, LI v2, LI v3, LI v4, LI v5] A (some (LI p.1)) p.2 := by
  unfold f_X11_feed at h
  obtain ⟨ho, h⟩ := ifN h
  exact ⟨wb_X11_feed N h, rfl⟩
theorem oo_X11_feed {N : Nat} {A : LH} {v0 : Option Nat} {v1 : Int32} {v2 : Int32} {v3 : Int32} {v4 : Int32} {v5 : Int32} {p : Int32 × LH} (h : f_X11_feed N A v0 v1 v2 v3 v4 v5 = some p) : isO A v0 11 = true := by unfold f_X11_feed at h; exact (ifN h).1
def b_X11_end (A : LH) (v0 : Option Nat) (v1 : Int32) : Option (Int32 × LH) :=
  (pF A v0 11 0 (LI (0 : Int32))).bind fun A1 => (gI A1 v0 11 2).bind fun x3 => (f_X11_in v1 (0 : Int32) x3).bind fun p5 => if p5 = 0 then some ((-1 : Int32), A1) else (pF A1 v0 11 2 (LI v1)).bind fun A9 => some (v1, A9)
set_option maxRecDepth 4000 in
theorem wb_X11_end {g : GG} {n0 z0 : Nat} {A : LH} {v0 : Option Nat} {v1 : Int32} {p : Int32 × LH} (h : b_X11_end A v0 v1 = some p) : V g m_X11_end 1 n0 z0 (some (LI p.1)) p.2 A 0 [some (LR v0), some (LI v1)] [] := by
  unfold b_X11_end at h
  refine V.aload_n dX11_end_0 rfl rfl ?_
  refine V.iconst dX11_end_1 ki_0 ?_
  obtain ⟨A1, h2, h⟩ := bnd h
  refine V.putF h2 rfl rfl rfl CF11 (Nat.le_of_ble_eq_true rfl) fl_RX11_94 dX11_end_2 ?_
  refine V.iload_n dX11_end_5 rfl rfl ?_
  refine V.iconst dX11_end_6 ki_0 ?_
  refine V.aload_n dX11_end_7 rfl rfl ?_
  obtain ⟨x3, h4, h⟩ := bnd h
  refine V.getF (gI_F h4) CF11 (Nat.le_of_ble_eq_true rfl) fl_RX11_101 dX11_end_8 ?_
  obtain ⟨p5, h6, h⟩ := bnd h
  have w7 := w_X11_in (g := g) (A := A1) h6
  refine V.callSi (args := [LI v1, LI (0 : Int32), LI x3]) (st := []) w7.1 mk_X11_in w7.2 ml_RX11_108 sm_X11_in rfl (Nat.le_of_ble_eq_true rfl) (by decide) rfl (Nat.le_of_ble_eq_true rfl) dX11_end_11 ?_
  refine V.if_ne (tgt := 19) dX11_end_14 (by decide) (fun c8 => ?_) (fun c8 => ?_)
  · have h := (if_neg c8).symm.trans h
    refine V.aload_n dX11_end_19 rfl rfl ?_
    refine V.iload_n dX11_end_20 rfl rfl ?_
    obtain ⟨A9, h10, h⟩ := bnd h
    refine V.putF h10 rfl rfl rfl CF11 (Nat.le_of_ble_eq_true rfl) fl_RX11_101 dX11_end_21 ?_
    refine V.iload_n dX11_end_24 rfl rfl ?_
    obtain rfl := Option.some.inj h
    exact V.ireturn dX11_end_25
  · have h := (if_pos c8).symm.trans h
    refine V.iconst dX11_end_17 ki_m1 ?_
    obtain rfl := Option.some.inj h
    exact V.ireturn dX11_end_18
def f_X11_end (A : LH) (v0 : Option Nat) (v1 : Int32) : Option (Int32 × LH) := if isO A v0 11 = true then b_X11_end A v0 v1 else none
theorem w_X11_end {g : GG} {A : LH} {v0 : Option Nat} {v1 : Int32} {p : Int32 × LH} (h : f_X11_end A v0 v1 = some p) : Ct g m_X11_end 1 [LR v0, LI v1] A (some (LI p.1)) p.2 := by
  unfold f_X11_end at h
  obtain ⟨ho, h⟩ := ifN h
  exact ⟨wb_X11_end h, rfl⟩
theorem oo_X11_end {A : LH} {v0 : Option Nat} {v1 : Int32} {p : Int32 × LH} (h : f_X11_end A v0 v1 = some p) : isO A v0 11 = true := by unfold f_X11_end at h; exact (ifN h).1
def b_X11_see (A : LH) (v0 : Option Nat) : Option (Int32) :=
  (gI A v0 11 18).bind fun x1 => (gI A v0 11 19).bind fun x3 => if x3 ≤ x1 then some (-1 : Int32) else (gR A v0 11 1).bind fun x6 => (gI A v0 11 18).bind fun x8 => (aI A x6 1 x8).bind fun x10 => some (x10 &&& (255 : Int32))
set_option maxRecDepth 4000 in
theorem wb_X11_see {g : GG} {n0 z0 : Nat} {A : LH} {v0 : Option Nat} {p : Int32} (h : b_X11_see A v0 = some p) : V g m_X11_see 0 n0 z0 (some (LI p)) A A 0 [some (LR v0)] [] := by
  unfold b_X11_see at h
  refine V.aload_n dX11_see_0 rfl rfl ?_
  obtain ⟨x1, h2, h⟩ := bnd h
  refine V.getF (gI_F h2) CF11 (Nat.le_of_ble_eq_true rfl) fl_RX11_112 dX11_see_1 ?_
  refine V.aload_n dX11_see_4 rfl rfl ?_
  obtain ⟨x3, h4, h⟩ := bnd h
  refine V.getF (gI_F h4) CF11 (Nat.le_of_ble_eq_true rfl) fl_RX11_115 dX11_see_5 ?_
  refine V.icmp_ge (tgt := 27) dX11_see_8 (by decide) (fun c5 => ?_) (fun c5 => ?_)
  · have h := (if_pos c5).symm.trans h
    refine V.iconst dX11_see_27 ki_m1 ?_
    obtain rfl := Option.some.inj h
    exact V.ireturn dX11_see_28
  · have h := (if_neg c5).symm.trans h
    refine V.aload_n dX11_see_11 rfl rfl ?_
    obtain ⟨x6, h7, h⟩ := bnd h
    refine V.getF (gR_F h7) CF11 (Nat.le_of_ble_eq_true rfl) fl_RX11_7 dX11_see_12 ?_
    refine V.aload_n dX11_see_15 rfl rfl ?_
    obtain ⟨x8, h9, h⟩ := bnd h
    refine V.getF (gI_F h9) CF11 (Nat.le_of_ble_eq_true rfl) fl_RX11_112 dX11_see_16 ?_
    obtain ⟨x10, h11, h⟩ := bnd h
    refine V.bald h11 dX11_see_19 ?_
    refine V.sipush dX11_see_20 ks_255 ?_
    refine V.iand dX11_see_23 ?_
    refine V.goto (tgt := 28) dX11_see_24 (by decide) ?_
    obtain rfl := Option.some.inj h
    exact V.ireturn dX11_see_28
def f_X11_see (A : LH) (v0 : Option Nat) : Option (Int32) := if isO A v0 11 = true then b_X11_see A v0 else none
theorem w_X11_see {g : GG} {A : LH} {v0 : Option Nat} {p : Int32} (h : f_X11_see A v0 = some p) : Ct g m_X11_see 0 [LR v0] A (some (LI p)) A := by
  unfold f_X11_see at h
  obtain ⟨ho, h⟩ := ifN h
  exact ⟨wb_X11_see h, rfl⟩
theorem oo_X11_see {A : LH} {v0 : Option Nat} {p : Int32} (h : f_X11_see A v0 = some p) : isO A v0 11 = true := by unfold f_X11_see at h; exact (ifN h).1
def b_X11_next_18 (N : Nat) (k0 : LH → Option Nat → Option (LH)) (A : LH) (v0 : Option Nat) : Option (LH) :=
  (gI A v0 11 18).bind fun x5 => (pF A v0 11 18 (LI (x5 + (1 : Int32)))).bind fun A7 => k0 A7 v0
set_option maxRecDepth 4000 in
theorem wb_X11_next_18 {g : GG} {n0 z0 : Nat} (N : Nat) {k0 : LH → Option Nat → Option (LH)} {A : LH} {v0 : Option Nat} {p : LH} (hk0 : ∀ {A : LH} {v0 : Option Nat} {p : LH}, k0 A v0 = some p → V g m_X11_next 1 n0 z0 none p A 0 [some (LR v0)] []) (h : b_X11_next_18 N k0 A v0 = some p) : V g m_X11_next 1 n0 z0 none p A 18 [some (LR v0)] [] := by
  unfold b_X11_next_18 at h
  refine V.aload_n dX11_next_18 rfl rfl ?_
  refine V.dup dX11_next_19 rfl ?_
  obtain ⟨x5, h6, h⟩ := bnd h
  refine V.getF (gI_F h6) CF11 (Nat.le_of_ble_eq_true rfl) fl_RX11_112 dX11_next_20 ?_
  refine V.iconst dX11_next_23 ki_1 ?_
  refine V.iadd dX11_next_24 ?_
  obtain ⟨A7, h8, h⟩ := bnd h
  refine V.putF h8 rfl rfl rfl CF11 (Nat.le_of_ble_eq_true rfl) fl_RX11_112 dX11_next_25 ?_
  refine V.goto (tgt := 0) dX11_next_28 (by decide) ?_
  refine V.weak [true] ?_
  exact hk0 h
def b_X11_next_300 (N : Nat) (A : LH) (s0 : Int32) (s1 : Option Nat) : Option (LH) :=
  (pF A s1 11 21 (LI s0)).bind fun A38 => some A38
set_option maxRecDepth 4000 in
theorem wb_X11_next_300 {g : GG} {n0 z0 : Nat} (N : Nat) {A : LH} {s0 : Int32} {s1 : Option Nat} {p : LH} (h : b_X11_next_300 N A s0 s1 = some p) : V g m_X11_next 1 n0 z0 none p A 300 [] [LI s0, LR s1] := by
  unfold b_X11_next_300 at h
  obtain ⟨A38, h39, h⟩ := bnd h
  refine V.putF h39 rfl rfl rfl CF11 (Nat.le_of_ble_eq_true rfl) fl_RX11_132 dX11_next_300 ?_
  obtain rfl := Option.some.inj h
  exact V.return_ dX11_next_303
def b_X11_next_295 (N : Nat) (A : LH) (s0 : Option Nat) : Option (LH) :=
  b_X11_next_300 N A (4 : Int32) s0
set_option maxRecDepth 4000 in
theorem wb_X11_next_295 {g : GG} {n0 z0 : Nat} (N : Nat) {A : LH} {s0 : Option Nat} {p : LH} (h : b_X11_next_295 N A s0 = some p) : V g m_X11_next 1 n0 z0 none p A 295 [] [LR s0] := by
  unfold b_X11_next_295 at h
  refine V.iconst dX11_next_295 ki_4 ?_
  refine V.goto (tgt := 300) dX11_next_296 (by decide) ?_
  refine V.weak [] ?_
  exact wb_X11_next_300 N h
def b_X11_next_242 (N : Nat) (A : LH) (s0 : Int32) (s1 : Option Nat) : Option (LH) :=
  (pF A s1 11 21 (LI s0)).bind fun A55 => some A55
set_option maxRecDepth 4000 in
theorem wb_X11_next_242 {g : GG} {n0 z0 : Nat} (N : Nat) {A : LH} {s0 : Int32} {s1 : Option Nat} {p : LH} (h : b_X11_next_242 N A s0 s1 = some p) : V g m_X11_next 1 n0 z0 none p A 242 [] [LI s0, LR s1] := by
  unfold b_X11_next_242 at h
  obtain ⟨A55, h56, h⟩ := bnd h
  refine V.putF h56 rfl rfl rfl CF11 (Nat.le_of_ble_eq_true rfl) fl_RX11_132 dX11_next_242 ?_
  refine V.goto (tgt := 303) dX11_next_245 (by decide) ?_
  obtain rfl := Option.some.inj h
  exact V.return_ dX11_next_303
def b_X11_next_212 (N : Nat) (k170 : LH → Option Nat → Int32 → Option (LH)) (A : LH) (v0 : Option Nat) (v2 : Int32) (s0 : Int32) (s1 : Option Nat) : Option (LH) :=
  (pF A s1 11 22 (LI s0)).bind fun A60 => (gI A60 v0 11 18).bind fun x62 => (pF A60 v0 11 18 (LI (x62 + (1 : Int32)))).bind fun A64 => k170 A64 v0 (v2 + (1 : Int32))
set_option maxRecDepth 4000 in
theorem wb_X11_next_212 {g : GG} {n0 z0 : Nat} (N : Nat) {k170 : LH → Option Nat → Int32 → Option (LH)} {A : LH} {v0 : Option Nat} {v2 : Int32} {s0 : Int32} {s1 : Option Nat} {p : LH} (hk170 : ∀ {A : LH} {v0 : Option Nat} {v2 : Int32} {p : LH}, k170 A v0 v2 = some p → V g m_X11_next 1 n0 z0 none p A 170 [some (LR v0), none, some (LI v2)] []) (h : b_X11_next_212 N k170 A v0 v2 s0 s1 = some p) : V g m_X11_next 1 n0 z0 none p A 212 [some (LR v0), none, some (LI v2)] [LI s0, LR s1] := by
  unfold b_X11_next_212 at h
  obtain ⟨A60, h61, h⟩ := bnd h
  refine V.putF h61 rfl rfl rfl CF11 (Nat.le_of_ble_eq_true rfl) fl_RX11_125 dX11_next_212 ?_
  refine V.aload_n dX11_next_215 rfl rfl ?_
  refine V.dup dX11_next_216 rfl ?_
  obtain ⟨x62, h63, h⟩ := bnd h
  refine V.getF (gI_F h63) CF11 (Nat.le_of_ble_eq_true rfl) fl_RX11_112 dX11_next_217 ?_
  refine V.iconst dX11_next_220 ki_1 ?_
  refine V.iadd dX11_next_221 ?_
  obtain ⟨A64, h65, h⟩ := bnd h
  refine V.putF h65 rfl rfl rfl CF11 (Nat.le_of_ble_eq_true rfl) fl_RX11_112 dX11_next_222 ?_
  refine V.iinc (ls' := [some (LR v0), none, some (LI (v2 + (1 : Int32)))]) dX11_next_225 rfl ki_1 (by decide) rfl rfl ?_
  refine V.goto (tgt := 170) dX11_next_228 (by decide) ?_
  refine V.weak [true, false, true] ?_
  exact hk170 h
def b_X11_next_170 (N : Nat) (k170 : LH → Option Nat → Int32 → Option (LH)) (A : LH) (v0 : Option Nat) (v2 : Int32) : Option (LH) :=
  (f_X11_see A v0).bind fun p47 => (f_X11_in p47 (48 : Int32) (57 : Int32)).bind fun p50 => if p50 = 0 then if v2 ≤ (3 : Int32) then b_X11_next_242 N A (3 : Int32) v0 else b_X11_next_242 N A (1 : Int32) v0 else if (3 : Int32) ≤ v2 then (gI A v0 11 22).bind fun x58 => b_X11_next_212 N k170 A v0 v2 x58 v0 else (gI A v0 11 22).bind fun x66 => (f_X11_see A v0).bind fun p68 => b_X11_next_212 N k170 A v0 v2 ((((10 : Int32) * x66) + p68) - (48 : Int32)) v0
set_option maxRecDepth 4000 in
theorem wb_X11_next_170 {g : GG} {n0 z0 : Nat} (N : Nat) {k170 : LH → Option Nat → Int32 → Option (LH)} {A : LH} {v0 : Option Nat} {v2 : Int32} {p : LH} (hk170 : ∀ {A : LH} {v0 : Option Nat} {v2 : Int32} {p : LH}, k170 A v0 v2 = some p → V g m_X11_next 1 n0 z0 none p A 170 [some (LR v0), none, some (LI v2)] []) (h : b_X11_next_170 N k170 A v0 v2 = some p) : V g m_X11_next 1 n0 z0 none p A 170 [some (LR v0), none, some (LI v2)] [] := by
  unfold b_X11_next_170 at h
  refine V.aload_n dX11_next_170 rfl rfl ?_
  obtain ⟨p47, h48, h⟩ := bnd h
  have w49 := w_X11_see (g := g) h48
  refine V.callVi (args := []) (st := []) w49.1 (oo_X11_see h48) mk_X11_see w49.2 vc_11 ml_RX11_118 im_X11_see se_X11_see rfl (Nat.le_of_ble_eq_true rfl) (by decide) rfl (Nat.le_of_ble_eq_true rfl) dX11_next_171 ?_
  refine V.bipush dX11_next_174 kb_48 ?_
  refine V.bipush dX11_next_176 kb_57 ?_
  obtain ⟨p50, h51, h⟩ := bnd h
  have w52 := w_X11_in (g := g) (A := A) h51
  refine V.callSi (args := [LI p47, LI (48 : Int32), LI (57 : Int32)]) (st := []) w52.1 mk_X11_in w52.2 ml_RX11_108 sm_X11_in rfl (Nat.le_of_ble_eq_true rfl) (by decide) rfl (Nat.le_of_ble_eq_true rfl) dX11_next_178 ?_
  refine V.if_eq (tgt := 231) dX11_next_181 (by decide) (fun c53 => ?_) (fun c53 => ?_)
  · have h := (if_pos c53).symm.trans h
    refine V.aload_n dX11_next_231 rfl rfl ?_
    refine V.iload_n dX11_next_232 rfl rfl ?_
    refine V.iconst dX11_next_233 ki_3 ?_
    refine V.icmp_le (tgt := 241) dX11_next_234 (by decide) (fun c54 => ?_) (fun c54 => ?_)
    · have h := (if_pos c54).symm.trans h
      refine V.iconst dX11_next_241 ki_3 ?_
      refine V.weak [] ?_
      exact wb_X11_next_242 N h
    · have h := (if_neg c54).symm.trans h
      refine V.iconst dX11_next_237 ki_1 ?_
      refine V.goto (tgt := 242) dX11_next_238 (by decide) ?_
      refine V.weak [] ?_
      exact wb_X11_next_242 N h
  · have h := (if_neg c53).symm.trans h
    refine V.aload_n dX11_next_184 rfl rfl ?_
    refine V.iload_n dX11_next_185 rfl rfl ?_
    refine V.iconst dX11_next_186 ki_3 ?_
    refine V.icmp_ge (tgt := 208) dX11_next_187 (by decide) (fun c57 => ?_) (fun c57 => ?_)
    · have h := (if_pos c57).symm.trans h
      refine V.aload_n dX11_next_208 rfl rfl ?_
      obtain ⟨x58, h59, h⟩ := bnd h
      refine V.getF (gI_F h59) CF11 (Nat.le_of_ble_eq_true rfl) fl_RX11_125 dX11_next_209 ?_
      refine V.weak [true, false, true] ?_
      exact wb_X11_next_212 N hk170 h
    · have h := (if_neg c57).symm.trans h
      refine V.bipush dX11_next_190 kb_10 ?_
      refine V.aload_n dX11_next_192 rfl rfl ?_
      obtain ⟨x66, h67, h⟩ := bnd h
      refine V.getF (gI_F h67) CF11 (Nat.le_of_ble_eq_true rfl) fl_RX11_125 dX11_next_193 ?_
      refine V.imul dX11_next_196 ?_
      refine V.aload_n dX11_next_197 rfl rfl ?_
      obtain ⟨p68, h69, h⟩ := bnd h
      have w70 := w_X11_see (g := g) h69
      refine V.callVi (args := []) (st := [LI ((10 : Int32) * x66), LR v0]) w70.1 (oo_X11_see h69) mk_X11_see w70.2 vc_11 ml_RX11_118 im_X11_see se_X11_see rfl (Nat.le_of_ble_eq_true rfl) (by decide) rfl (Nat.le_of_ble_eq_true rfl) dX11_next_198 ?_
      refine V.iadd dX11_next_201 ?_
      refine V.bipush dX11_next_202 kb_48 ?_
      refine V.isub dX11_next_204 ?_
      refine V.goto (tgt := 212) dX11_next_205 (by decide) ?_
      refine V.weak [true, false, true] ?_
      exact wb_X11_next_212 N hk170 h
def l_X11_next_170 (N : Nat) : Nat → LH → Option Nat → Int32 → Option (LH)
  | 0, _, _, _ => none
  | n + 1, A, v0, v2 => b_X11_next_170 N (l_X11_next_170 N n) A v0 v2
theorem wl_X11_next_170 {g : GG} {n0 z0 : Nat} (N : Nat) : ∀ (n : Nat) {A : LH} {v0 : Option Nat} {v2 : Int32} {p : LH}, l_X11_next_170 N n A v0 v2 = some p → V g m_X11_next 1 n0 z0 none p A 170 [some (LR v0), none, some (LI v2)] []
  | 0, _, _, _, _, h => nomatch h
  | n + 1, _, _, _, _, h => wb_X11_next_170 N (wl_X11_next_170 N n) h
def b_X11_next_141 (N : Nat) (A : LH) (v0 : Option Nat) (s0 : Int64) (s1 : Option Nat) : Option (LH) :=
  (pF A s1 11 23 (LJ s0)).bind fun A81 => (pF A81 v0 11 21 (LI (2 : Int32))).bind fun A83 => some A83
set_option maxRecDepth 4000 in
theorem wb_X11_next_141 {g : GG} {n0 z0 : Nat} (N : Nat) {A : LH} {v0 : Option Nat} {s0 : Int64} {s1 : Option Nat} {p : LH} (h : b_X11_next_141 N A v0 s0 s1 = some p) : V g m_X11_next 1 n0 z0 none p A 141 [some (LR v0)] [LJ s0, LR s1] := by
  unfold b_X11_next_141 at h
  obtain ⟨A81, h82, h⟩ := bnd h
  refine V.putF h82 rfl rfl rfl CF11 (Nat.le_of_ble_eq_true rfl) fl_RX11_128 dX11_next_141 ?_
  refine V.aload_n dX11_next_144 rfl rfl ?_
  refine V.iconst dX11_next_145 ki_2 ?_
  obtain ⟨A83, h84, h⟩ := bnd h
  refine V.putF h84 rfl rfl rfl CF11 (Nat.le_of_ble_eq_true rfl) fl_RX11_132 dX11_next_146 ?_
  refine V.goto (tgt := 303) dX11_next_149 (by decide) ?_
  obtain rfl := Option.some.inj h
  exact V.return_ dX11_next_303
def b_X11_next_79 (N : Nat) (k79 : LH → Option Nat → Int32 → Option (LH)) (A : LH) (v0 : Option Nat) (v2 : Int32) : Option (LH) :=
  (f_X11_see A v0).bind fun p71 => (f_X11_in p71 (97 : Int32) (122 : Int32)).bind fun p74 => if p74 = 0 then if v2 ≤ (8 : Int32) then (gJ A v0 11 23).bind fun x79 => b_X11_next_141 N A v0 x79 v0 else b_X11_next_141 N A v0 (0 : Int64) v0 else (gJ A v0 11 23).bind fun x85 => (f_X11_see A v0).bind fun p87 => (pF A v0 11 23 (LJ ((x85 <<< (((8 : Int32)).toInt64 &&& 63)) ||| (p87).toInt64))).bind fun A90 => (gI A90 v0 11 18).bind fun x92 => (pF A90 v0 11 18 (LI (x92 + (1 : Int32)))).bind fun A94 => k79 A94 v0 (v2 + (1 : Int32))
set_option maxRecDepth 4000 in
theorem wb_X11_next_79 {g : GG} {n0 z0 : Nat} (N : Nat) {k79 : LH → Option Nat → Int32 → Option (LH)} {A : LH} {v0 : Option Nat} {v2 : Int32} {p : LH} (hk79 : ∀ {A : LH} {v0 : Option Nat} {v2 : Int32} {p : LH}, k79 A v0 v2 = some p → V g m_X11_next 1 n0 z0 none p A 79 [some (LR v0), none, some (LI v2)] []) (h : b_X11_next_79 N k79 A v0 v2 = some p) : V g m_X11_next 1 n0 z0 none p A 79 [some (LR v0), none, some (LI v2)] [] := by
  unfold b_X11_next_79 at h
  refine V.aload_n dX11_next_79 rfl rfl ?_
  obtain ⟨p71, h72, h⟩ := bnd h
  have w73 := w_X11_see (g := g) h72
  refine V.callVi (args := []) (st := []) w73.1 (oo_X11_see h72) mk_X11_see w73.2 vc_11 ml_RX11_118 im_X11_see se_X11_see rfl (Nat.le_of_ble_eq_true rfl) (by decide) rfl (Nat.le_of_ble_eq_true rfl) dX11_next_80 ?_
  refine V.bipush dX11_next_83 kb_97 ?_
  refine V.bipush dX11_next_85 kb_122 ?_
  obtain ⟨p74, h75, h⟩ := bnd h
  have w76 := w_X11_in (g := g) (A := A) h75
  refine V.callSi (args := [LI p71, LI (97 : Int32), LI (122 : Int32)]) (st := []) w76.1 mk_X11_in w76.2 ml_RX11_108 sm_X11_in rfl (Nat.le_of_ble_eq_true rfl) (by decide) rfl (Nat.le_of_ble_eq_true rfl) dX11_next_87 ?_
  refine V.if_eq (tgt := 126) dX11_next_90 (by decide) (fun c77 => ?_) (fun c77 => ?_)
  · have h := (if_pos c77).symm.trans h
    refine V.aload_n dX11_next_126 rfl rfl ?_
    refine V.iload_n dX11_next_127 rfl rfl ?_
    refine V.bipush dX11_next_128 kb_8 ?_
    refine V.icmp_le (tgt := 137) dX11_next_130 (by decide) (fun c78 => ?_) (fun c78 => ?_)
    · have h := (if_pos c78).symm.trans h
      refine V.aload_n dX11_next_137 rfl rfl ?_
      obtain ⟨x79, h80, h⟩ := bnd h
      refine V.getF (gJ_F h80) CF11 (Nat.le_of_ble_eq_true rfl) fl_RX11_128 dX11_next_138 ?_
      refine V.weak [true] ?_
      exact wb_X11_next_141 N h
    · have h := (if_neg c78).symm.trans h
      refine V.lconst (v := (0 : Int64)) dX11_next_133 (by decide) ?_
      refine V.goto (tgt := 141) dX11_next_134 (by decide) ?_
      refine V.weak [true] ?_
      exact wb_X11_next_141 N h
  · have h := (if_neg c77).symm.trans h
    refine V.aload_n dX11_next_93 rfl rfl ?_
    refine V.aload_n dX11_next_94 rfl rfl ?_
    obtain ⟨x85, h86, h⟩ := bnd h
    refine V.getF (gJ_F h86) CF11 (Nat.le_of_ble_eq_true rfl) fl_RX11_128 dX11_next_95 ?_
    refine V.bipush dX11_next_98 kb_8 ?_
    refine V.lshl dX11_next_100 ?_
    refine V.aload_n dX11_next_101 rfl rfl ?_
    obtain ⟨p87, h88, h⟩ := bnd h
    have w89 := w_X11_see (g := g) h88
    refine V.callVi (args := []) (st := [LJ (x85 <<< (((8 : Int32)).toInt64 &&& 63)), LR v0]) w89.1 (oo_X11_see h88) mk_X11_see w89.2 vc_11 ml_RX11_118 im_X11_see se_X11_see rfl (Nat.le_of_ble_eq_true rfl) (by decide) rfl (Nat.le_of_ble_eq_true rfl) dX11_next_102 ?_
    refine V.i2l dX11_next_105 ?_
    refine V.lor dX11_next_106 ?_
    obtain ⟨A90, h91, h⟩ := bnd h
    refine V.putF h91 rfl rfl rfl CF11 (Nat.le_of_ble_eq_true rfl) fl_RX11_128 dX11_next_107 ?_
    refine V.aload_n dX11_next_110 rfl rfl ?_
    refine V.dup dX11_next_111 rfl ?_
    obtain ⟨x92, h93, h⟩ := bnd h
    refine V.getF (gI_F h93) CF11 (Nat.le_of_ble_eq_true rfl) fl_RX11_112 dX11_next_112 ?_
    refine V.iconst dX11_next_115 ki_1 ?_
    refine V.iadd dX11_next_116 ?_
    obtain ⟨A94, h95, h⟩ := bnd h
    refine V.putF h95 rfl rfl rfl CF11 (Nat.le_of_ble_eq_true rfl) fl_RX11_112 dX11_next_117 ?_
    refine V.iinc (ls' := [some (LR v0), none, some (LI (v2 + (1 : Int32)))]) dX11_next_120 rfl ki_1 (by decide) rfl rfl ?_
    refine V.goto (tgt := 79) dX11_next_123 (by decide) ?_
    refine V.weak [true, false, true] ?_
    exact hk79 h
def l_X11_next_79 (N : Nat) : Nat → LH → Option Nat → Int32 → Option (LH)
  | 0, _, _, _ => none
  | n + 1, A, v0, v2 => b_X11_next_79 N (l_X11_next_79 N n) A v0 v2
theorem wl_X11_next_79 {g : GG} {n0 z0 : Nat} (N : Nat) : ∀ (n : Nat) {A : LH} {v0 : Option Nat} {v2 : Int32} {p : LH}, l_X11_next_79 N n A v0 v2 = some p → V g m_X11_next 1 n0 z0 none p A 79 [some (LR v0), none, some (LI v2)] []
  | 0, _, _, _, _, h => nomatch h
  | n + 1, _, _, _, _, h => wb_X11_next_79 N (wl_X11_next_79 N n) h
def b_X11_next_0 (N : Nat) (k0 : LH → Option Nat → Option (LH)) (A : LH) (v0 : Option Nat) : Option (LH) :=
  (f_X11_see A v0).bind fun p1 => if p1 = (10 : Int32) then b_X11_next_18 N k0 A v0 else (f_X11_see A v0).bind fun p9 => if p9 = (32 : Int32) then b_X11_next_18 N k0 A v0 else (gI A v0 11 18).bind fun x13 => (pF A v0 11 20 (LI x13)).bind fun A15 => (f_X11_see A15 v0).bind fun p17 => (pF A15 v0 11 22 (LI p17)).bind fun A20 => (pF A20 v0 11 23 (LJ (0 : Int64))).bind fun A22 => if 0 ≤ p17 then (f_X11_in p17 (97 : Int32) (122 : Int32)).bind fun p25 => if p25 = 0 then (f_X11_in p17 (48 : Int32) (57 : Int32)).bind fun p29 => if p29 = 0 then (gI A22 v0 11 18).bind fun x33 => (pF A22 v0 11 18 (LI (x33 + (1 : Int32)))).bind fun A35 => if p17 = (59 : Int32) then b_X11_next_295 N A35 v0 else if p17 = (40 : Int32) then b_X11_next_295 N A35 v0 else if p17 = (41 : Int32) then b_X11_next_295 N A35 v0 else if p17 = (60 : Int32) then b_X11_next_295 N A35 v0 else if p17 = (62 : Int32) then b_X11_next_295 N A35 v0 else if p17 = (61 : Int32) then b_X11_next_295 N A35 v0 else b_X11_next_300 N A35 (1 : Int32) v0 else (pF A22 v0 11 22 (LI (0 : Int32))).bind fun A45 => l_X11_next_170 N N A45 v0 (0 : Int32) else l_X11_next_79 N N A22 v0 (0 : Int32) else (pF A22 v0 11 21 (LI (0 : Int32))).bind fun A96 => some A96
set_option maxRecDepth 4000 in
theorem wb_X11_next_0 {g : GG} {n0 z0 : Nat} (N : Nat) {k0 : LH → Option Nat → Option (LH)} {A : LH} {v0 : Option Nat} {p : LH} (hk0 : ∀ {A : LH} {v0 : Option Nat} {p : LH}, k0 A v0 = some p → V g m_X11_next 1 n0 z0 none p A 0 [some (LR v0)] []) (h : b_X11_next_0 N k0 A v0 = some p) : V g m_X11_next 1 n0 z0 none p A 0 [some (LR v0)] [] := by
  unfold b_X11_next_0 at h
  refine V.aload_n dX11_next_0 rfl rfl ?_
  obtain ⟨p1, h2, h⟩ := bnd h
  have w3 := w_X11_see (g := g) h2
  refine V.callVi (args := []) (st := []) w3.1 (oo_X11_see h2) mk_X11_see w3.2 vc_11 ml_RX11_118 im_X11_see se_X11_see rfl (Nat.le_of_ble_eq_true rfl) (by decide) rfl (Nat.le_of_ble_eq_true rfl) dX11_next_1 ?_
  refine V.bipush dX11_next_4 kb_10 ?_
  refine V.icmp_eq (tgt := 18) dX11_next_6 (by decide) (fun c4 => ?_) (fun c4 => ?_)
  · have h := (if_pos c4).symm.trans h
    refine V.weak [true] ?_
    exact wb_X11_next_18 N hk0 h
  · have h := (if_neg c4).symm.trans h
    refine V.aload_n dX11_next_9 rfl rfl ?_
    obtain ⟨p9, h10, h⟩ := bnd h
    have w11 := w_X11_see (g := g) h10
    refine V.callVi (args := []) (st := []) w11.1 (oo_X11_see h10) mk_X11_see w11.2 vc_11 ml_RX11_118 im_X11_see se_X11_see rfl (Nat.le_of_ble_eq_true rfl) (by decide) rfl (Nat.le_of_ble_eq_true rfl) dX11_next_10 ?_
    refine V.bipush dX11_next_13 kb_32 ?_
    refine V.icmp_ne (tgt := 31) dX11_next_15 (by decide) (fun c12 => ?_) (fun c12 => ?_)
    · have h := (if_neg c12).symm.trans h
      refine V.aload_n dX11_next_31 rfl rfl ?_
      refine V.aload_n dX11_next_32 rfl rfl ?_
      obtain ⟨x13, h14, h⟩ := bnd h
      refine V.getF (gI_F h14) CF11 (Nat.le_of_ble_eq_true rfl) fl_RX11_112 dX11_next_33 ?_
      obtain ⟨A15, h16, h⟩ := bnd h
      refine V.putF h16 rfl rfl rfl CF11 (Nat.le_of_ble_eq_true rfl) fl_RX11_122 dX11_next_36 ?_
      refine V.aload_n dX11_next_39 rfl rfl ?_
      obtain ⟨p17, h18, h⟩ := bnd h
      have w19 := w_X11_see (g := g) h18
      refine V.callVi (args := []) (st := []) w19.1 (oo_X11_see h18) mk_X11_see w19.2 vc_11 ml_RX11_118 im_X11_see se_X11_see rfl (Nat.le_of_ble_eq_true rfl) (by decide) rfl (Nat.le_of_ble_eq_true rfl) dX11_next_40 ?_
      refine V.istore_n (ls' := [some (LR v0), some (LI p17)]) dX11_next_43 rfl (by decide) rfl rfl ?_
      refine V.aload_n dX11_next_44 rfl rfl ?_
      refine V.iload_n dX11_next_45 rfl rfl ?_
      obtain ⟨A20, h21, h⟩ := bnd h
      refine V.putF h21 rfl rfl rfl CF11 (Nat.le_of_ble_eq_true rfl) fl_RX11_125 dX11_next_46 ?_
      refine V.aload_n dX11_next_49 rfl rfl ?_
      refine V.lconst (v := (0 : Int64)) dX11_next_50 (by decide) ?_
      obtain ⟨A22, h23, h⟩ := bnd h
      refine V.putF h23 rfl rfl rfl CF11 (Nat.le_of_ble_eq_true rfl) fl_RX11_128 dX11_next_51 ?_
      refine V.iload_n dX11_next_54 rfl rfl ?_
      refine V.if_ge (tgt := 66) dX11_next_55 (by decide) (fun c24 => ?_) (fun c24 => ?_)
      · have h := (if_pos c24).symm.trans h
        refine V.iload_n dX11_next_66 rfl rfl ?_
        refine V.bipush dX11_next_67 kb_97 ?_
        refine V.bipush dX11_next_69 kb_122 ?_
        obtain ⟨p25, h26, h⟩ := bnd h
        have w27 := w_X11_in (g := g) (A := A22) h26
        refine V.callSi (args := [LI p17, LI (97 : Int32), LI (122 : Int32)]) (st := []) w27.1 mk_X11_in w27.2 ml_RX11_108 sm_X11_in rfl (Nat.le_of_ble_eq_true rfl) (by decide) rfl (Nat.le_of_ble_eq_true rfl) dX11_next_71 ?_
        refine V.if_eq (tgt := 152) dX11_next_74 (by decide) (fun c28 => ?_) (fun c28 => ?_)
        · have h := (if_pos c28).symm.trans h
          refine V.iload_n dX11_next_152 rfl rfl ?_
          refine V.bipush dX11_next_153 kb_48 ?_
          refine V.bipush dX11_next_155 kb_57 ?_
          obtain ⟨p29, h30, h⟩ := bnd h
          have w31 := w_X11_in (g := g) (A := A22) h30
          refine V.callSi (args := [LI p17, LI (48 : Int32), LI (57 : Int32)]) (st := []) w31.1 mk_X11_in w31.2 ml_RX11_108 sm_X11_in rfl (Nat.le_of_ble_eq_true rfl) (by decide) rfl (Nat.le_of_ble_eq_true rfl) dX11_next_157 ?_
          refine V.if_eq (tgt := 248) dX11_next_160 (by decide) (fun c32 => ?_) (fun c32 => ?_)
          · have h := (if_pos c32).symm.trans h
            refine V.aload_n dX11_next_248 rfl rfl ?_
            refine V.dup dX11_next_249 rfl ?_
            obtain ⟨x33, h34, h⟩ := bnd h
            refine V.getF (gI_F h34) CF11 (Nat.le_of_ble_eq_true rfl) fl_RX11_112 dX11_next_250 ?_
            refine V.iconst dX11_next_253 ki_1 ?_
            refine V.iadd dX11_next_254 ?_
            obtain ⟨A35, h36, h⟩ := bnd h
            refine V.putF h36 rfl rfl rfl CF11 (Nat.le_of_ble_eq_true rfl) fl_RX11_112 dX11_next_255 ?_
            refine V.aload_n dX11_next_258 rfl rfl ?_
            refine V.iload_n dX11_next_259 rfl rfl ?_
            refine V.bipush dX11_next_260 kb_59 ?_
            refine V.icmp_eq (tgt := 295) dX11_next_262 (by decide) (fun c37 => ?_) (fun c37 => ?_)
            · have h := (if_pos c37).symm.trans h
              refine V.weak [] ?_
              exact wb_X11_next_295 N h
            · have h := (if_neg c37).symm.trans h
              refine V.iload_n dX11_next_265 rfl rfl ?_
              refine V.bipush dX11_next_266 kb_40 ?_
              refine V.icmp_eq (tgt := 295) dX11_next_268 (by decide) (fun c40 => ?_) (fun c40 => ?_)
              · have h := (if_pos c40).symm.trans h
                refine V.weak [] ?_
                exact wb_X11_next_295 N h
              · have h := (if_neg c40).symm.trans h
                refine V.iload_n dX11_next_271 rfl rfl ?_
                refine V.bipush dX11_next_272 kb_41 ?_
                refine V.icmp_eq (tgt := 295) dX11_next_274 (by decide) (fun c41 => ?_) (fun c41 => ?_)
                · have h := (if_pos c41).symm.trans h
                  refine V.weak [] ?_
                  exact wb_X11_next_295 N h
                · have h := (if_neg c41).symm.trans h
                  refine V.iload_n dX11_next_277 rfl rfl ?_
                  refine V.bipush dX11_next_278 kb_60 ?_
                  refine V.icmp_eq (tgt := 295) dX11_next_280 (by decide) (fun c42 => ?_) (fun c42 => ?_)
                  · have h := (if_pos c42).symm.trans h
                    refine V.weak [] ?_
                    exact wb_X11_next_295 N h
                  · have h := (if_neg c42).symm.trans h
                    refine V.iload_n dX11_next_283 rfl rfl ?_
                    refine V.bipush dX11_next_284 kb_62 ?_
                    refine V.icmp_eq (tgt := 295) dX11_next_286 (by decide) (fun c43 => ?_) (fun c43 => ?_)
                    · have h := (if_pos c43).symm.trans h
                      refine V.weak [] ?_
                      exact wb_X11_next_295 N h
                    · have h := (if_neg c43).symm.trans h
                      refine V.iload_n dX11_next_289 rfl rfl ?_
                      refine V.bipush dX11_next_290 kb_61 ?_
                      refine V.icmp_ne (tgt := 299) dX11_next_292 (by decide) (fun c44 => ?_) (fun c44 => ?_)
                      · have h := (if_neg c44).symm.trans h
                        refine V.iconst dX11_next_299 ki_1 ?_
                        refine V.weak [] ?_
                        exact wb_X11_next_300 N h
                      · have h := (if_pos c44).symm.trans h
                        refine V.weak [] ?_
                        exact wb_X11_next_295 N h
          · have h := (if_neg c32).symm.trans h
            refine V.iconst dX11_next_163 ki_0 ?_
            refine V.istore_n (ls' := [some (LR v0), some (LI p17), some (LI (0 : Int32))]) dX11_next_164 rfl (by decide) rfl rfl ?_
            refine V.aload_n dX11_next_165 rfl rfl ?_
            refine V.iconst dX11_next_166 ki_0 ?_
            obtain ⟨A45, h46, h⟩ := bnd h
            refine V.putF h46 rfl rfl rfl CF11 (Nat.le_of_ble_eq_true rfl) fl_RX11_125 dX11_next_167 ?_
            refine V.weak [true, false, true] ?_
            exact wl_X11_next_170 N N h
        · have h := (if_neg c28).symm.trans h
          refine V.iconst dX11_next_77 ki_0 ?_
          refine V.istore_n (ls' := [some (LR v0), some (LI p17), some (LI (0 : Int32))]) dX11_next_78 rfl (by decide) rfl rfl ?_
          refine V.weak [true, false, true] ?_
          exact wl_X11_next_79 N N h
      · have h := (if_neg c24).symm.trans h
        refine V.aload_n dX11_next_58 rfl rfl ?_
        refine V.iconst dX11_next_59 ki_0 ?_
        obtain ⟨A96, h97, h⟩ := bnd h
        refine V.putF h97 rfl rfl rfl CF11 (Nat.le_of_ble_eq_true rfl) fl_RX11_132 dX11_next_60 ?_
        refine V.goto (tgt := 303) dX11_next_63 (by decide) ?_
        obtain rfl := Option.some.inj h
        exact V.return_ dX11_next_303
    · have h := (if_pos c12).symm.trans h
      refine V.weak [true] ?_
      exact wb_X11_next_18 N hk0 h
def l_X11_next_0 (N : Nat) : Nat → LH → Option Nat → Option (LH)
  | 0, _, _ => none
  | n + 1, A, v0 => b_X11_next_0 N (l_X11_next_0 N n) A v0
theorem wl_X11_next_0 {g : GG} {n0 z0 : Nat} (N : Nat) : ∀ (n : Nat) {A : LH} {v0 : Option Nat} {p : LH}, l_X11_next_0 N n A v0 = some p → V g m_X11_next 1 n0 z0 none p A 0 [some (LR v0)] []
  | 0, _, _, _, h => nomatch h
  | n + 1, _, _, _, h => wb_X11_next_0 N (wl_X11_next_0 N n) h
def b_X11_next (N : Nat) (A : LH) (v0 : Option Nat) : Option (LH) := l_X11_next_0 N N A v0
theorem wb_X11_next {g : GG} {n0 z0 : Nat} (N : Nat) {A : LH} {v0 : Option Nat} {p : LH} (h : b_X11_next N A v0 = some p) : V g m_X11_next 1 n0 z0 none p A 0 [some (LR v0)] [] := by
  unfold b_X11_next at h
  refine V.weak [true] ?_
  exact wl_X11_next_0 N N h
def f_X11_next (N : Nat) (A : LH) (v0 : Option Nat) : Option (LH) := if isO A v0 11 = true then b_X11_next N A v0 else none
theorem w_X11_next {g : GG} (N : Nat) {A : LH} {v0 : Option Nat} {p : LH} (h : f_X11_next N A v0 = some p) : Ct g m_X11_next 1 [LR v0] A none p := by
  unfold f_X11_next at h
  obtain ⟨ho, h⟩ := ifN h
  exact ⟨wb_X11_next N h, trivial⟩
theorem oo_X11_next {N : Nat} {A : LH} {v0 : Option Nat} {p : LH} (h : f_X11_next N A v0 = some p) : isO A v0 11 = true := by unfold f_X11_next at h; exact (ifN h).1
def b_X11_isWord (A : LH) (v0 : Option Nat) (v1 : Int64) : Option (Int32) :=
  (gI A v0 11 21).bind fun x1 => if x1 = (2 : Int32) then (gJ A v0 11 23).bind fun x4 => if (lg_cmp x4 v1) = 0 then some (1 : Int32) else some (0 : Int32) else some (0 : Int32)
set_option maxRecDepth 4000 in
theorem wb_X11_isWord {g : GG} {n0 z0 : Nat} {A : LH} {v0 : Option Nat} {v1 : Int64} {p : Int32} (h : b_X11_isWord A v0 v1 = some p) : V g m_X11_isWord 0 n0 z0 (some (LI p)) A A 0 [some (LR v0), some (LJ v1), none] [] := by
  unfold b_X11_isWord at h
  refine V.aload_n dX11_isWord_0 rfl rfl ?_
  obtain ⟨x1, h2, h⟩ := bnd h
  refine V.getF (gI_F h2) CF11 (Nat.le_of_ble_eq_true rfl) fl_RX11_132 dX11_isWord_1 ?_
  refine V.iconst dX11_isWord_4 ki_2 ?_
  refine V.icmp_ne (tgt := 21) dX11_isWord_5 (by decide) (fun c3 => ?_) (fun c3 => ?_)
  · have h := (if_neg c3).symm.trans h
    refine V.iconst dX11_isWord_21 ki_0 ?_
    obtain rfl := Option.some.inj h
    exact V.ireturn dX11_isWord_22
  · have h := (if_pos c3).symm.trans h
    refine V.aload_n dX11_isWord_8 rfl rfl ?_
    obtain ⟨x4, h5, h⟩ := bnd h
    refine V.getF (gJ_F h5) CF11 (Nat.le_of_ble_eq_true rfl) fl_RX11_128 dX11_isWord_9 ?_
    refine V.lload_n dX11_isWord_12 rfl rfl ?_
    refine V.lcmp dX11_isWord_13 ?_
    refine V.if_ne (tgt := 21) dX11_isWord_14 (by decide) (fun c6 => ?_) (fun c6 => ?_)
    · have h := (if_neg c6).symm.trans h
      refine V.iconst dX11_isWord_21 ki_0 ?_
      obtain rfl := Option.some.inj h
      exact V.ireturn dX11_isWord_22
    · have h := (if_pos c6).symm.trans h
      refine V.iconst dX11_isWord_17 ki_1 ?_
      refine V.goto (tgt := 22) dX11_isWord_18 (by decide) ?_
      obtain rfl := Option.some.inj h
      exact V.ireturn dX11_isWord_22
def f_X11_isWord (A : LH) (v0 : Option Nat) (v1 : Int64) : Option (Int32) := if isO A v0 11 = true then zd (b_X11_isWord A v0 v1) else none
theorem w_X11_isWord {g : GG} {A : LH} {v0 : Option Nat} {v1 : Int64} {p : Int32} (h : f_X11_isWord A v0 v1 = some p) : Ct g m_X11_isWord 0 [LR v0, LJ v1] A (some (LI p)) A := by
  unfold f_X11_isWord at h
  obtain ⟨ho, h⟩ := ifN h
  obtain ⟨h, hz⟩ := zd_sp h
  exact ⟨wb_X11_isWord h, (RTz hz)⟩
theorem oo_X11_isWord {A : LH} {v0 : Option Nat} {v1 : Int64} {p : Int32} (h : f_X11_isWord A v0 v1 = some p) : isO A v0 11 = true := by unfold f_X11_isWord at h; exact (ifN h).1
def b_X11_isSign (A : LH) (v0 : Option Nat) (v1 : Int32) : Option (Int32) :=
  (gI A v0 11 21).bind fun x1 => if x1 = (4 : Int32) then (gI A v0 11 22).bind fun x4 => if x4 = v1 then some (1 : Int32) else some (0 : Int32) else some (0 : Int32)
set_option maxRecDepth 4000 in
theorem wb_X11_isSign {g : GG} {n0 z0 : Nat} {A : LH} {v0 : Option Nat} {v1 : Int32} {p : Int32} (h : b_X11_isSign A v0 v1 = some p) : V g m_X11_isSign 0 n0 z0 (some (LI p)) A A 0 [some (LR v0), some (LI v1)] [] := by
  unfold b_X11_isSign at h
  refine V.aload_n dX11_isSign_0 rfl rfl ?_
  obtain ⟨x1, h2, h⟩ := bnd h
  refine V.getF (gI_F h2) CF11 (Nat.le_of_ble_eq_true rfl) fl_RX11_132 dX11_isSign_1 ?_
  refine V.iconst dX11_isSign_4 ki_4 ?_
  refine V.icmp_ne (tgt := 20) dX11_isSign_5 (by decide) (fun c3 => ?_) (fun c3 => ?_)
  · have h := (if_neg c3).symm.trans h
    refine V.iconst dX11_isSign_20 ki_0 ?_
    obtain rfl := Option.some.inj h
    exact V.ireturn dX11_isSign_21
  · have h := (if_pos c3).symm.trans h
    refine V.aload_n dX11_isSign_8 rfl rfl ?_
    obtain ⟨x4, h5, h⟩ := bnd h
    refine V.getF (gI_F h5) CF11 (Nat.le_of_ble_eq_true rfl) fl_RX11_125 dX11_isSign_9 ?_
    refine V.iload_n dX11_isSign_12 rfl rfl ?_
    refine V.icmp_ne (tgt := 20) dX11_isSign_13 (by decide) (fun c6 => ?_) (fun c6 => ?_)
    · have h := (if_neg c6).symm.trans h
      refine V.iconst dX11_isSign_20 ki_0 ?_
      obtain rfl := Option.some.inj h
      exact V.ireturn dX11_isSign_21
    · have h := (if_pos c6).symm.trans h
      refine V.iconst dX11_isSign_16 ki_1 ?_
      refine V.goto (tgt := 21) dX11_isSign_17 (by decide) ?_
      obtain rfl := Option.some.inj h
      exact V.ireturn dX11_isSign_21
def f_X11_isSign (A : LH) (v0 : Option Nat) (v1 : Int32) : Option (Int32) := if isO A v0 11 = true then zd (b_X11_isSign A v0 v1) else none
theorem w_X11_isSign {g : GG} {A : LH} {v0 : Option Nat} {v1 : Int32} {p : Int32} (h : f_X11_isSign A v0 v1 = some p) : Ct g m_X11_isSign 0 [LR v0, LI v1] A (some (LI p)) A := by
  unfold f_X11_isSign at h
  obtain ⟨ho, h⟩ := ifN h
  obtain ⟨h, hz⟩ := zd_sp h
  exact ⟨wb_X11_isSign h, (RTz hz)⟩
theorem oo_X11_isSign {A : LH} {v0 : Option Nat} {v1 : Int32} {p : Int32} (h : f_X11_isSign A v0 v1 = some p) : isO A v0 11 = true := by unfold f_X11_isSign at h; exact (ifN h).1
def b_X11_wrong (A : LH) (v0 : Option Nat) : Option (Int32 × LH) :=
  (pF A v0 11 24 (LI (1 : Int32))).bind fun A1 => (gI A1 v0 11 20).bind fun x3 => (pF A1 v0 11 25 (LI x3)).bind fun A5 => some ((0 : Int32), A5)
set_option maxRecDepth 4000 in
theorem wb_X11_wrong {g : GG} {n0 z0 : Nat} {A : LH} {v0 : Option Nat} {p : Int32 × LH} (h : b_X11_wrong A v0 = some p) : V g m_X11_wrong 0 n0 z0 (some (LI p.1)) p.2 A 0 [some (LR v0)] [] := by
  unfold b_X11_wrong at h
  refine V.aload_n dX11_wrong_0 rfl rfl ?_
  refine V.iconst dX11_wrong_1 ki_1 ?_
  obtain ⟨A1, h2, h⟩ := bnd h
  refine V.putF h2 rfl rfl rfl CF11 (Nat.le_of_ble_eq_true rfl) fl_RX11_135 dX11_wrong_2 ?_
  refine V.aload_n dX11_wrong_5 rfl rfl ?_
  refine V.aload_n dX11_wrong_6 rfl rfl ?_
  obtain ⟨x3, h4, h⟩ := bnd h
  refine V.getF (gI_F h4) CF11 (Nat.le_of_ble_eq_true rfl) fl_RX11_122 dX11_wrong_7 ?_
  obtain ⟨A5, h6, h⟩ := bnd h
  refine V.putF h6 rfl rfl rfl CF11 (Nat.le_of_ble_eq_true rfl) fl_RX11_59 dX11_wrong_10 ?_
  refine V.iconst dX11_wrong_13 ki_0 ?_
  obtain rfl := Option.some.inj h
  exact V.ireturn dX11_wrong_14
def f_X11_wrong (A : LH) (v0 : Option Nat) : Option (Int32 × LH) := if isO A v0 11 = true then zc (b_X11_wrong A v0) else none
theorem w_X11_wrong {g : GG} {A : LH} {v0 : Option Nat} {p : Int32 × LH} (h : f_X11_wrong A v0 = some p) : Ct g m_X11_wrong 0 [LR v0] A (some (LI p.1)) p.2 := by
  unfold f_X11_wrong at h
  obtain ⟨ho, h⟩ := ifN h
  obtain ⟨h, hz⟩ := zc_sp h
  exact ⟨wb_X11_wrong h, (RTz hz)⟩
theorem oo_X11_wrong {A : LH} {v0 : Option Nat} {p : Int32 × LH} (h : f_X11_wrong A v0 = some p) : isO A v0 11 = true := by unfold f_X11_wrong at h; exact (ifN h).1
def b_X11_note (A : LH) (v0 : Option Nat) (v1 : Int32) (v2 : Int32) : Option (LH) :=
  (gI A v0 11 26).bind fun x1 => if x1 = 0 then (pF A v0 11 26 (LI v1)).bind fun A4 => (pF A4 v0 11 27 (LI v2)).bind fun A6 => some A6 else some A
set_option maxRecDepth 4000 in
theorem wb_X11_note {g : GG} {n0 z0 : Nat} {A : LH} {v0 : Option Nat} {v1 : Int32} {v2 : Int32} {p : LH} (h : b_X11_note A v0 v1 v2 = some p) : V g m_X11_note 0 n0 z0 none p A 0 [some (LR v0), some (LI v1), some (LI v2)] [] := by
  unfold b_X11_note at h
  refine V.aload_n dX11_note_0 rfl rfl ?_
  obtain ⟨x1, h2, h⟩ := bnd h
  refine V.getF (gI_F h2) CF11 (Nat.le_of_ble_eq_true rfl) fl_RX11_138 dX11_note_1 ?_
  refine V.if_ne (tgt := 17) dX11_note_4 (by decide) (fun c3 => ?_) (fun c3 => ?_)
  · have h := (if_neg c3).symm.trans h
    obtain rfl := Option.some.inj h
    exact V.return_ dX11_note_17
  · have h := (if_pos c3).symm.trans h
    refine V.aload_n dX11_note_7 rfl rfl ?_
    refine V.iload_n dX11_note_8 rfl rfl ?_
    obtain ⟨A4, h5, h⟩ := bnd h
    refine V.putF h5 rfl rfl rfl CF11 (Nat.le_of_ble_eq_true rfl) fl_RX11_138 dX11_note_9 ?_
    refine V.aload_n dX11_note_12 rfl rfl ?_
    refine V.iload_n dX11_note_13 rfl rfl ?_
    obtain ⟨A6, h7, h⟩ := bnd h
    refine V.putF h7 rfl rfl rfl CF11 (Nat.le_of_ble_eq_true rfl) fl_RX11_141 dX11_note_14 ?_
    obtain rfl := Option.some.inj h
    exact V.return_ dX11_note_17
def f_X11_note (A : LH) (v0 : Option Nat) (v1 : Int32) (v2 : Int32) : Option (LH) := if isO A v0 11 = true then b_X11_note A v0 v1 v2 else none
theorem w_X11_note {g : GG} {A : LH} {v0 : Option Nat} {v1 : Int32} {v2 : Int32} {p : LH} (h : f_X11_note A v0 v1 v2 = some p) : Ct g m_X11_note 0 [LR v0, LI v1, LI v2] A none p := by
  unfold f_X11_note at h
  obtain ⟨ho, h⟩ := ifN h
  exact ⟨wb_X11_note h, trivial⟩
theorem oo_X11_note {A : LH} {v0 : Option Nat} {v1 : Int32} {v2 : Int32} {p : LH} (h : f_X11_note A v0 v1 v2 = some p) : isO A v0 11 = true := by unfold f_X11_note at h; exact (ifN h).1
def b_X11_need (N : Nat) (A : LH) (v0 : Option Nat) (v1 : Int32) : Option (Int32 × LH) :=
  (f_X11_isSign A v0 v1).bind fun p1 => if p1 = 0 then (f_X11_wrong A v0).bind fun p8 => some (p8.1, p8.2) else (f_X11_next N A v0).bind fun p5 => some ((1 : Int32), p5)
set_option maxRecDepth 4000 in
theorem wb_X11_need {g : GG} {n0 z0 : Nat} (N : Nat) {A : LH} {v0 : Option Nat} {v1 : Int32} {p : Int32 × LH} (h : b_X11_need N A v0 v1 = some p) : V g m_X11_need 2 n0 z0 (some (LI p.1)) p.2 A 0 [some (LR v0), some (LI v1)] [] := by
  unfold b_X11_need at h
  refine V.aload_n dX11_need_0 rfl rfl ?_
  refine V.iload_n dX11_need_1 rfl rfl ?_
  obtain ⟨p1, h2, h⟩ := bnd h
  have w3 := w_X11_isSign (g := g) h2
  refine V.callVi (args := [LI v1]) (st := []) w3.1 (oo_X11_isSign h2) mk_X11_isSign w3.2 vc_11 ml_RX11_144 im_X11_isSign se_X11_isSign rfl (Nat.le_of_ble_eq_true rfl) (by decide) rfl (Nat.le_of_ble_eq_true rfl) dX11_need_2 ?_
  refine V.if_ne (tgt := 13) dX11_need_5 (by decide) (fun c4 => ?_) (fun c4 => ?_)
  · have h := (if_neg c4).symm.trans h
    refine V.aload_n dX11_need_13 rfl rfl ?_
    obtain ⟨p5, h6, h⟩ := bnd h
    have w7 := w_X11_next (g := g) N h6
    refine V.callVv (args := []) (st := []) w7.1 (oo_X11_next h6) mk_X11_next w7.2 vc_11 ml_RX11_152 im_X11_next se_X11_next rfl (Nat.le_of_ble_eq_true rfl) (by decide) rfl (Nat.le_of_ble_eq_true rfl) dX11_need_14 ?_
    refine V.iconst dX11_need_17 ki_1 ?_
    obtain rfl := Option.some.inj h
    exact V.ireturn dX11_need_18
  · have h := (if_pos c4).symm.trans h
    refine V.aload_n dX11_need_8 rfl rfl ?_
    obtain ⟨p8, h9, h⟩ := bnd h
    have w10 := w_X11_wrong (g := g) h9
    refine V.callVi (args := []) (st := []) w10.1 (oo_X11_wrong h9) mk_X11_wrong w10.2 vc_11 ml_RX11_148 im_X11_wrong se_X11_wrong rfl (Nat.le_of_ble_eq_true rfl) (by decide) rfl (Nat.le_of_ble_eq_true rfl) dX11_need_9 ?_
    obtain rfl := Option.some.inj h
    exact V.ireturn dX11_need_12
def f_X11_need (N : Nat) (A : LH) (v0 : Option Nat) (v1 : Int32) : Option (Int32 × LH) := if isO A v0 11 = true then zc (b_X11_need N A v0 v1) else none
theorem w_X11_need {g : GG} (N : Nat) {A : LH} {v0 : Option Nat} {v1 : Int32} {p : Int32 × LH} (h : f_X11_need N A v0 v1 = some p) : Ct g m_X11_need 2 [LR v0, LI v1] A (some (LI p.1)) p.2 := by
  unfold f_X11_need at h
  obtain ⟨ho, h⟩ := ifN h
  obtain ⟨h, hz⟩ := zc_sp h
  exact ⟨wb_X11_need N h, (RTz hz)⟩
theorem oo_X11_need {N : Nat} {A : LH} {v0 : Option Nat} {v1 : Int32} {p : Int32 × LH} (h : f_X11_need N A v0 v1 = some p) : isO A v0 11 = true := by unfold f_X11_need at h; exact (ifN h).1
def b_X11_number_38 (N : Nat) (A : LH) (v0 : Option Nat) : Option (Int32 × LH) :=
  (f_X11_next N A v0).bind fun p11 => some ((1 : Int32), p11)
set_option maxRecDepth 4000 in
theorem wb_X11_number_38 {g : GG} {n0 z0 : Nat} (N : Nat) {A : LH} {v0 : Option Nat} {p : Int32 × LH} (h : b_X11_number_38 N A v0 = some p) : V g m_X11_number 2 n0 z0 (some (LI p.1)) p.2 A 38 [some (LR v0)] [] := by
  unfold b_X11_number_38 at h
  refine V.aload_n dX11_number_38 rfl rfl ?_
  obtain ⟨p11, h12, h⟩ := bnd h
  have w13 := w_X11_next (g := g) N h12
  refine V.callVv (args := []) (st := []) w13.1 (oo_X11_next h12) mk_X11_next w13.2 vc_11 ml_RX11_152 im_X11_next se_X11_next rfl (Nat.le_of_ble_eq_true rfl) (by decide) rfl (Nat.le_of_ble_eq_true rfl) dX11_number_39 ?_
  refine V.iconst dX11_number_42 ki_1 ?_
  obtain rfl := Option.some.inj h
  exact V.ireturn dX11_number_43
def b_X11_number (N : Nat) (A : LH) (v0 : Option Nat) (v1 : Int32) : Option (Int32 × LH) :=
  (gI A v0 11 21).bind fun x1 => if x1 = (3 : Int32) then (gI A v0 11 22).bind fun x4 => (pF A v0 11 35 (LI x4)).bind fun A6 => (gI A6 v0 11 35).bind fun x8 => if x8 ≤ v1 then b_X11_number_38 N A6 v0 else (gI A6 v0 11 20).bind fun x14 => (f_X11_note A6 v0 (2 : Int32) x14).bind fun p16 => b_X11_number_38 N p16 v0 else (f_X11_wrong A v0).bind fun p19 => some (p19.1, p19.2)
set_option maxRecDepth 4000 in
theorem wb_X11_number {g : GG} {n0 z0 : Nat} (N : Nat) {A : LH} {v0 : Option Nat} {v1 : Int32} {p : Int32 × LH} (h : b_X11_number N A v0 v1 = some p) : V g m_X11_number 2 n0 z0 (some (LI p.1)) p.2 A 0 [some (LR v0), some (LI v1)] [] := by
  unfold b_X11_number at h
  refine V.aload_n dX11_number_0 rfl rfl ?_
  obtain ⟨x1, h2, h⟩ := bnd h
  refine V.getF (gI_F h2) CF11 (Nat.le_of_ble_eq_true rfl) fl_RX11_132 dX11_number_1 ?_
  refine V.iconst dX11_number_4 ki_3 ?_
  refine V.icmp_eq (tgt := 13) dX11_number_5 (by decide) (fun c3 => ?_) (fun c3 => ?_)
  · have h := (if_pos c3).symm.trans h
    refine V.aload_n dX11_number_13 rfl rfl ?_
    refine V.aload_n dX11_number_14 rfl rfl ?_
    obtain ⟨x4, h5, h⟩ := bnd h
    refine V.getF (gI_F h5) CF11 (Nat.le_of_ble_eq_true rfl) fl_RX11_125 dX11_number_15 ?_
    obtain ⟨A6, h7, h⟩ := bnd h
    refine V.putF h7 rfl rfl rfl CF11 (Nat.le_of_ble_eq_true rfl) fl_RX11_155 dX11_number_18 ?_
    refine V.aload_n dX11_number_21 rfl rfl ?_
    obtain ⟨x8, h9, h⟩ := bnd h
    refine V.getF (gI_F h9) CF11 (Nat.le_of_ble_eq_true rfl) fl_RX11_155 dX11_number_22 ?_
    refine V.iload_n dX11_number_25 rfl rfl ?_
    refine V.icmp_le (tgt := 38) dX11_number_26 (by decide) (fun c10 => ?_) (fun c10 => ?_)
    · have h := (if_pos c10).symm.trans h
      refine V.weak [true] ?_
      exact wb_X11_number_38 N h
    · have h := (if_neg c10).symm.trans h
      refine V.aload_n dX11_number_29 rfl rfl ?_
      refine V.iconst dX11_number_30 ki_2 ?_
      refine V.aload_n dX11_number_31 rfl rfl ?_
      obtain ⟨x14, h15, h⟩ := bnd h
      refine V.getF (gI_F h15) CF11 (Nat.le_of_ble_eq_true rfl) fl_RX11_122 dX11_number_32 ?_
      obtain ⟨p16, h17, h⟩ := bnd h
      have w18 := w_X11_note (g := g) h17
      refine V.callVv (args := [LI (2 : Int32), LI x14]) (st := []) w18.1 (oo_X11_note h17) mk_X11_note w18.2 vc_11 ml_RX11_158 im_X11_note se_X11_note rfl (Nat.le_of_ble_eq_true rfl) (by decide) rfl (Nat.le_of_ble_eq_true rfl) dX11_number_35 ?_
      refine V.weak [true] ?_
      exact wb_X11_number_38 N h
  · have h := (if_neg c3).symm.trans h
    refine V.aload_n dX11_number_8 rfl rfl ?_
    obtain ⟨p19, h20, h⟩ := bnd h
    have w21 := w_X11_wrong (g := g) h20
    refine V.callVi (args := []) (st := []) w21.1 (oo_X11_wrong h20) mk_X11_wrong w21.2 vc_11 ml_RX11_148 im_X11_wrong se_X11_wrong rfl (Nat.le_of_ble_eq_true rfl) (by decide) rfl (Nat.le_of_ble_eq_true rfl) dX11_number_9 ?_
    obtain rfl := Option.some.inj h
    exact V.ireturn dX11_number_12
def f_X11_number (N : Nat) (A : LH) (v0 : Option Nat) (v1 : Int32) : Option (Int32 × LH) := if isO A v0 11 = true then zc (b_X11_number N A v0 v1) else none
theorem w_X11_number {g : GG} (N : Nat) {A : LH} {v0 : Option Nat} {v1 : Int32} {p : Int32 × LH} (h : f_X11_number N A v0 v1 = some p) : Ct g m_X11_number 2 [LR v0, LI v1] A (some (LI p.1)) p.2 := by
  unfold f_X11_number at h
  obtain ⟨ho, h⟩ := ifN h
  obtain ⟨h, hz⟩ := zc_sp h
  exact ⟨wb_X11_number N h, (RTz hz)⟩
theorem oo_X11_number {N : Nat} {A : LH} {v0 : Option Nat} {v1 : Int32} {p : Int32 × LH} (h : f_X11_number N A v0 v1 = some p) : isO A v0 11 = true := by unfold f_X11_number at h; exact (ifN h).1
def b_X11_put (A : LH) (v0 : Option Nat) (v1 : Int32) (v2 : Int32) : Option (LH) :=
  (gR A v0 11 33).bind fun x1 => (gI A v0 11 31).bind fun x3 => (sI A x1 1 x3 ((v1).toInt8.toInt32).toInt8.toInt32).bind fun A5 => (gR A5 v0 11 34).bind fun x7 => (gI A5 v0 11 31).bind fun x9 => (sI A5 x7 0 x9 v2).bind fun A11 => (gI A11 v0 11 31).bind fun x13 => (pF A11 v0 11 31 (LI (x13 + (1 : Int32)))).bind fun A15 => some A15
set_option maxRecDepth 4000 in
theorem wb_X11_put {g : GG} {n0 z0 : Nat} {A : LH} {v0 : Option Nat} {v1 : Int32} {v2 : Int32} {p : LH} (h : b_X11_put A v0 v1 v2 = some p) : V g m_X11_put 0 n0 z0 none p A 0 [some (LR v0), some (LI v1), some (LI v2)] [] := by
  unfold b_X11_put at h
  refine V.aload_n dX11_put_0 rfl rfl ?_
  obtain ⟨x1, h2, h⟩ := bnd h
  refine V.getF (gR_F h2) CF11 (Nat.le_of_ble_eq_true rfl) fl_RX11_66 dX11_put_1 ?_
  refine V.aload_n dX11_put_4 rfl rfl ?_
  obtain ⟨x3, h4, h⟩ := bnd h
  refine V.getF (gI_F h4) CF11 (Nat.le_of_ble_eq_true rfl) fl_RX11_162 dX11_put_5 ?_
  refine V.iload_n dX11_put_8 rfl rfl ?_
  refine V.i2b dX11_put_9 ?_
  obtain ⟨A5, h6, h⟩ := bnd h
  refine V.bast h6 dX11_put_10 ?_
  refine V.aload_n dX11_put_11 rfl rfl ?_
  obtain ⟨x7, h8, h⟩ := bnd h
  refine V.getF (gR_F h8) CF11 (Nat.le_of_ble_eq_true rfl) fl_RX11_69 dX11_put_12 ?_
  refine V.aload_n dX11_put_15 rfl rfl ?_
  obtain ⟨x9, h10, h⟩ := bnd h
  refine V.getF (gI_F h10) CF11 (Nat.le_of_ble_eq_true rfl) fl_RX11_162 dX11_put_16 ?_
  refine V.iload_n dX11_put_19 rfl rfl ?_
  obtain ⟨A11, h12, h⟩ := bnd h
  refine V.iast h12 dX11_put_20 ?_
  refine V.aload_n dX11_put_21 rfl rfl ?_
  refine V.dup dX11_put_22 rfl ?_
  obtain ⟨x13, h14, h⟩ := bnd h
  refine V.getF (gI_F h14) CF11 (Nat.le_of_ble_eq_true rfl) fl_RX11_162 dX11_put_23 ?_
  refine V.iconst dX11_put_26 ki_1 ?_
  refine V.iadd dX11_put_27 ?_
  obtain ⟨A15, h16, h⟩ := bnd h
  refine V.putF h16 rfl rfl rfl CF11 (Nat.le_of_ble_eq_true rfl) fl_RX11_162 dX11_put_28 ?_
  obtain rfl := Option.some.inj h
  exact V.return_ dX11_put_31
def f_X11_put (A : LH) (v0 : Option Nat) (v1 : Int32) (v2 : Int32) : Option (LH) := if isO A v0 11 = true then b_X11_put A v0 v1 v2 else none
theorem w_X11_put {g : GG} {A : LH} {v0 : Option Nat} {v1 : Int32} {v2 : Int32} {p : LH} (h : f_X11_put A v0 v1 v2 = some p) : Ct g m_X11_put 0 [LR v0, LI v1, LI v2] A none p := by
  unfold f_X11_put at h
  obtain ⟨ho, h⟩ := ifN h
  exact ⟨wb_X11_put h, trivial⟩
theorem oo_X11_put {A : LH} {v0 : Option Nat} {v1 : Int32} {v2 : Int32} {p : LH} (h : f_X11_put A v0 v1 v2 = some p) : isO A v0 11 = true := by unfold f_X11_put at h; exact (ifN h).1
def b_X11_beginning_79 (N : Nat) (A : LH) (v0 : Option Nat) (s0 : Int32) (s1 : Option Nat) : Option (Int32 × LH) :=
  (pF A s1 11 29 (LI s0)).bind fun A26 => (gI A26 v0 11 29).bind fun x28 => if x28 = (-1 : Int32) then (f_X11_wrong A26 v0).bind fun p37 => some (p37.1, p37.2) else (f_X11_next N A26 v0).bind fun p31 => (f_X11_need N p31 v0 (59 : Int32)).bind fun p34 => some (p34.1, p34.2)
set_option maxRecDepth 4000 in
theorem wb_X11_beginning_79 {g : GG} {n0 z0 : Nat} (N : Nat) {A : LH} {v0 : Option Nat} {s0 : Int32} {s1 : Option Nat} {p : Int32 × LH} (h : b_X11_beginning_79 N A v0 s0 s1 = some p) : V g m_X11_beginning 3 n0 z0 (some (LI p.1)) p.2 A 79 [some (LR v0)] [LI s0, LR s1] := by
  unfold b_X11_beginning_79 at h
  obtain ⟨A26, h27, h⟩ := bnd h
  refine V.putF h27 rfl rfl rfl CF11 (Nat.le_of_ble_eq_true rfl) fl_RX11_165 dX11_beginning_79 ?_
  refine V.aload_n dX11_beginning_82 rfl rfl ?_
  obtain ⟨x28, h29, h⟩ := bnd h
  refine V.getF (gI_F h29) CF11 (Nat.le_of_ble_eq_true rfl) fl_RX11_165 dX11_beginning_83 ?_
  refine V.iconst dX11_beginning_86 ki_m1 ?_
  refine V.icmp_ne (tgt := 95) dX11_beginning_87 (by decide) (fun c30 => ?_) (fun c30 => ?_)
  · have h := (if_neg c30).symm.trans h
    refine V.aload_n dX11_beginning_95 rfl rfl ?_
    obtain ⟨p31, h32, h⟩ := bnd h
    have w33 := w_X11_next (g := g) N h32
    refine V.callVv (args := []) (st := []) w33.1 (oo_X11_next h32) mk_X11_next w33.2 vc_11 ml_RX11_152 im_X11_next se_X11_next rfl (Nat.le_of_ble_eq_true rfl) (by decide) rfl (Nat.le_of_ble_eq_true rfl) dX11_beginning_96 ?_
    refine V.aload_n dX11_beginning_99 rfl rfl ?_
    refine V.bipush dX11_beginning_100 kb_59 ?_
    obtain ⟨p34, h35, h⟩ := bnd h
    have w36 := w_X11_need (g := g) N h35
    refine V.callVi (args := [LI (59 : Int32)]) (st := []) w36.1 (oo_X11_need h35) mk_X11_need w36.2 vc_11 ml_RX11_182 im_X11_need se_X11_need rfl (Nat.le_of_ble_eq_true rfl) (by decide) rfl (Nat.le_of_ble_eq_true rfl) dX11_beginning_102 ?_
    obtain rfl := Option.some.inj h
    exact V.ireturn dX11_beginning_105
  · have h := (if_pos c30).symm.trans h
    refine V.aload_n dX11_beginning_90 rfl rfl ?_
    obtain ⟨p37, h38, h⟩ := bnd h
    have w39 := w_X11_wrong (g := g) h38
    refine V.callVi (args := []) (st := []) w39.1 (oo_X11_wrong h38) mk_X11_wrong w39.2 vc_11 ml_RX11_148 im_X11_wrong se_X11_wrong rfl (Nat.le_of_ble_eq_true rfl) (by decide) rfl (Nat.le_of_ble_eq_true rfl) dX11_beginning_91 ?_
    obtain rfl := Option.some.inj h
    exact V.ireturn dX11_beginning_94
def b_X11_beginning (N : Nat) (A : LH) (v0 : Option Nat) : Option (Int32 × LH) :=
  (pF A v0 11 29 (LI (0 : Int32))).bind fun A1 => (f_X11_isWord A1 v0 (25209 : Int64)).bind fun p3 => if p3 = 0 then some ((1 : Int32), A1) else (f_X11_next N A1 v0).bind fun p7 => (f_X11_isWord p7 v0 (439855772532 : Int64)).bind fun p10 => if p10 = 0 then (f_X11_isWord p7 v0 (1818325876 : Int64)).bind fun p14 => if p14 = 0 then (f_X11_isWord p7 v0 (1937010544 : Int64)).bind fun p18 => if p18 = 0 then (f_X11_isWord p7 v0 (7103860 : Int64)).bind fun p22 => if p22 = 0 then b_X11_beginning_79 N p7 v0 (-1 : Int32) v0 else b_X11_beginning_79 N p7 v0 (3 : Int32) v0 else b_X11_beginning_79 N p7 v0 (2 : Int32) v0 else b_X11_beginning_79 N p7 v0 (1 : Int32) v0 else b_X11_beginning_79 N p7 v0 (0 : Int32) v0
set_option maxRecDepth 4000 in
theorem wb_X11_beginning {g : GG} {n0 z0 : Nat} (N : Nat) {A : LH} {v0 : Option Nat} {p : Int32 × LH} (h : b_X11_beginning N A v0 = some p) : V g m_X11_beginning 3 n0 z0 (some (LI p.1)) p.2 A 0 [some (LR v0)] [] := by
  unfold b_X11_beginning at h
  refine V.aload_n dX11_beginning_0 rfl rfl ?_
  refine V.iconst dX11_beginning_1 ki_0 ?_
  obtain ⟨A1, h2, h⟩ := bnd h
  refine V.putF h2 rfl rfl rfl CF11 (Nat.le_of_ble_eq_true rfl) fl_RX11_165 dX11_beginning_2 ?_
  refine V.aload_n dX11_beginning_5 rfl rfl ?_
  refine V.ldc2 kc_RX11_168 dX11_beginning_6 ?_
  obtain ⟨p3, h4, h⟩ := bnd h
  have w5 := w_X11_isWord (g := g) h4
  refine V.callVi (args := [LJ (25209 : Int64)]) (st := []) w5.1 (oo_X11_isWord h4) mk_X11_isWord w5.2 vc_11 ml_RX11_170 im_X11_isWord se_X11_isWord rfl (Nat.le_of_ble_eq_true rfl) (by decide) rfl (Nat.le_of_ble_eq_true rfl) dX11_beginning_9 ?_
  refine V.if_ne (tgt := 17) dX11_beginning_12 (by decide) (fun c6 => ?_) (fun c6 => ?_)
  · have h := (if_neg c6).symm.trans h
    refine V.aload_n dX11_beginning_17 rfl rfl ?_
    obtain ⟨p7, h8, h⟩ := bnd h
    have w9 := w_X11_next (g := g) N h8
    refine V.callVv (args := []) (st := []) w9.1 (oo_X11_next h8) mk_X11_next w9.2 vc_11 ml_RX11_152 im_X11_next se_X11_next rfl (Nat.le_of_ble_eq_true rfl) (by decide) rfl (Nat.le_of_ble_eq_true rfl) dX11_beginning_18 ?_
    refine V.aload_n dX11_beginning_21 rfl rfl ?_
    refine V.aload_n dX11_beginning_22 rfl rfl ?_
    refine V.ldc2 kc_RX11_174 dX11_beginning_23 ?_
    obtain ⟨p10, h11, h⟩ := bnd h
    have w12 := w_X11_isWord (g := g) h11
    refine V.callVi (args := [LJ (439855772532 : Int64)]) (st := [LR v0]) w12.1 (oo_X11_isWord h11) mk_X11_isWord w12.2 vc_11 ml_RX11_170 im_X11_isWord se_X11_isWord rfl (Nat.le_of_ble_eq_true rfl) (by decide) rfl (Nat.le_of_ble_eq_true rfl) dX11_beginning_26 ?_
    refine V.if_eq (tgt := 36) dX11_beginning_29 (by decide) (fun c13 => ?_) (fun c13 => ?_)
    · have h := (if_pos c13).symm.trans h
      refine V.aload_n dX11_beginning_36 rfl rfl ?_
      refine V.ldc2 kc_RX11_176 dX11_beginning_37 ?_
      obtain ⟨p14, h15, h⟩ := bnd h
      have w16 := w_X11_isWord (g := g) h15
      refine V.callVi (args := [LJ (1818325876 : Int64)]) (st := [LR v0]) w16.1 (oo_X11_isWord h15) mk_X11_isWord w16.2 vc_11 ml_RX11_170 im_X11_isWord se_X11_isWord rfl (Nat.le_of_ble_eq_true rfl) (by decide) rfl (Nat.le_of_ble_eq_true rfl) dX11_beginning_40 ?_
      refine V.if_eq (tgt := 50) dX11_beginning_43 (by decide) (fun c17 => ?_) (fun c17 => ?_)
      · have h := (if_pos c17).symm.trans h
        refine V.aload_n dX11_beginning_50 rfl rfl ?_
        refine V.ldc2 kc_RX11_178 dX11_beginning_51 ?_
        obtain ⟨p18, h19, h⟩ := bnd h
        have w20 := w_X11_isWord (g := g) h19
        refine V.callVi (args := [LJ (1937010544 : Int64)]) (st := [LR v0]) w20.1 (oo_X11_isWord h19) mk_X11_isWord w20.2 vc_11 ml_RX11_170 im_X11_isWord se_X11_isWord rfl (Nat.le_of_ble_eq_true rfl) (by decide) rfl (Nat.le_of_ble_eq_true rfl) dX11_beginning_54 ?_
        refine V.if_eq (tgt := 64) dX11_beginning_57 (by decide) (fun c21 => ?_) (fun c21 => ?_)
        · have h := (if_pos c21).symm.trans h
          refine V.aload_n dX11_beginning_64 rfl rfl ?_
          refine V.ldc2 kc_RX11_180 dX11_beginning_65 ?_
          obtain ⟨p22, h23, h⟩ := bnd h
          have w24 := w_X11_isWord (g := g) h23
          refine V.callVi (args := [LJ (7103860 : Int64)]) (st := [LR v0]) w24.1 (oo_X11_isWord h23) mk_X11_isWord w24.2 vc_11 ml_RX11_170 im_X11_isWord se_X11_isWord rfl (Nat.le_of_ble_eq_true rfl) (by decide) rfl (Nat.le_of_ble_eq_true rfl) dX11_beginning_68 ?_
          refine V.if_eq (tgt := 78) dX11_beginning_71 (by decide) (fun c25 => ?_) (fun c25 => ?_)
          · have h := (if_pos c25).symm.trans h
            refine V.iconst dX11_beginning_78 ki_m1 ?_
            refine V.weak [true] ?_
            exact wb_X11_beginning_79 N h
          · have h := (if_neg c25).symm.trans h
            refine V.iconst dX11_beginning_74 ki_3 ?_
            refine V.goto (tgt := 79) dX11_beginning_75 (by decide) ?_
            refine V.weak [true] ?_
            exact wb_X11_beginning_79 N h
        · have h := (if_neg c21).symm.trans h
          refine V.iconst dX11_beginning_60 ki_2 ?_
          refine V.goto (tgt := 79) dX11_beginning_61 (by decide) ?_
          refine V.weak [true] ?_
          exact wb_X11_beginning_79 N h
      · have h := (if_neg c17).symm.trans h
        refine V.iconst dX11_beginning_46 ki_1 ?_
        refine V.goto (tgt := 79) dX11_beginning_47 (by decide) ?_
        refine V.weak [true] ?_
        exact wb_X11_beginning_79 N h
    · have h := (if_neg c13).symm.trans h
      refine V.iconst dX11_beginning_32 ki_0 ?_
      refine V.goto (tgt := 79) dX11_beginning_33 (by decide) ?_
      refine V.weak [true] ?_
      exact wb_X11_beginning_79 N h
  · have h := (if_pos c6).symm.trans h
    refine V.iconst dX11_beginning_15 ki_1 ?_
    obtain rfl := Option.some.inj h
    exact V.ireturn dX11_beginning_16
def f_X11_beginning (N : Nat) (A : LH) (v0 : Option Nat) : Option (Int32 × LH) := if isO A v0 11 = true then zc (b_X11_beginning N A v0) else none
theorem w_X11_beginning {g : GG} (N : Nat) {A : LH} {v0 : Option Nat} {p : Int32 × LH} (h : f_X11_beginning N A v0 = some p) : Ct g m_X11_beginning 3 [LR v0] A (some (LI p.1)) p.2 := by
  unfold f_X11_beginning at h
  obtain ⟨ho, h⟩ := ifN h
  obtain ⟨h, hz⟩ := zc_sp h
  exact ⟨wb_X11_beginning N h, (RTz hz)⟩
theorem oo_X11_beginning {N : Nat} {A : LH} {v0 : Option Nat} {p : Int32 × LH} (h : f_X11_beginning N A v0 = some p) : isO A v0 11 = true := by unfold f_X11_beginning at h; exact (ifN h).1
def b_X11_act_71 (N : Nat) (A : LH) (v0 : Option Nat) (v1 : Int32) (s0 : Int32) : Option (Int32 × LH) :=
  if s0 = (-1 : Int32) then (f_X11_wrong A v0).bind fun p29 => some (p29.1, p29.2) else (f_X11_next N A v0).bind fun p22 => (gR p22 v0 11 32).bind fun x25 => (sI p22 x25 0 (v1 + (3 : Int32)) s0).bind fun A27 => some ((1 : Int32), A27)
set_option maxRecDepth 4000 in
theorem wb_X11_act_71 {g : GG} {n0 z0 : Nat} (N : Nat) {A : LH} {v0 : Option Nat} {v1 : Int32} {s0 : Int32} {p : Int32 × LH} (h : b_X11_act_71 N A v0 v1 s0 = some p) : V g m_X11_act 2 n0 z0 (some (LI p.1)) p.2 A 71 [some (LR v0), some (LI v1)] [LI s0] := by
  unfold b_X11_act_71 at h
  refine V.istore_n (ls' := [some (LR v0), some (LI v1), some (LI s0)]) dX11_act_71 rfl (by decide) rfl rfl ?_
  refine V.iload_n dX11_act_72 rfl rfl ?_
  refine V.iconst dX11_act_73 ki_m1 ?_
  refine V.icmp_ne (tgt := 82) dX11_act_74 (by decide) (fun c21 => ?_) (fun c21 => ?_)
  · have h := (if_neg c21).symm.trans h
    refine V.aload_n dX11_act_82 rfl rfl ?_
    obtain ⟨p22, h23, h⟩ := bnd h
    have w24 := w_X11_next (g := g) N h23
    refine V.callVv (args := []) (st := []) w24.1 (oo_X11_next h23) mk_X11_next w24.2 vc_11 ml_RX11_152 im_X11_next se_X11_next rfl (Nat.le_of_ble_eq_true rfl) (by decide) rfl (Nat.le_of_ble_eq_true rfl) dX11_act_83 ?_
    refine V.aload_n dX11_act_86 rfl rfl ?_
    obtain ⟨x25, h26, h⟩ := bnd h
    refine V.getF (gR_F h26) CF11 (Nat.le_of_ble_eq_true rfl) fl_RX11_63 dX11_act_87 ?_
    refine V.iload_n dX11_act_90 rfl rfl ?_
    refine V.iconst dX11_act_91 ki_3 ?_
    refine V.iadd dX11_act_92 ?_
    refine V.iload_n dX11_act_93 rfl rfl ?_
    obtain ⟨A27, h28, h⟩ := bnd h
    refine V.iast h28 dX11_act_94 ?_
    refine V.iconst dX11_act_95 ki_1 ?_
    obtain rfl := Option.some.inj h
    exact V.ireturn dX11_act_96
  · have h := (if_pos c21).symm.trans h
    refine V.aload_n dX11_act_77 rfl rfl ?_
    obtain ⟨p29, h30, h⟩ := bnd h
    have w31 := w_X11_wrong (g := g) h30
    refine V.callVi (args := []) (st := []) w31.1 (oo_X11_wrong h30) mk_X11_wrong w31.2 vc_11 ml_RX11_148 im_X11_wrong se_X11_wrong rfl (Nat.le_of_ble_eq_true rfl) (by decide) rfl (Nat.le_of_ble_eq_true rfl) dX11_act_78 ?_
    obtain rfl := Option.some.inj h
    exact V.ireturn dX11_act_81
def b_X11_act (N : Nat) (A : LH) (v0 : Option Nat) (v1 : Int32) : Option (Int32 × LH) :=
  (f_X11_isWord A v0 (6385273 : Int64)).bind fun p1 => if p1 = 0 then (f_X11_isWord A v0 (1919246692 : Int64)).bind fun p5 => if p5 = 0 then (f_X11_isWord A v0 (513020621925 : Int64)).bind fun p9 => if p9 = 0 then (f_X11_isWord A v0 (495672455781 : Int64)).bind fun p13 => if p13 = 0 then (f_X11_isWord A v0 (1685221232 : Int64)).bind fun p17 => if p17 = 0 then b_X11_act_71 N A v0 v1 (-1 : Int32) else b_X11_act_71 N A v0 v1 (3 : Int32) else b_X11_act_71 N A v0 v1 (2 : Int32) else b_X11_act_71 N A v0 v1 (1 : Int32) else b_X11_act_71 N A v0 v1 (0 : Int32) else b_X11_act_71 N A v0 v1 (4 : Int32)
set_option maxRecDepth 4000 in
theorem wb_X11_act {g : GG} {n0 z0 : Nat} (N : Nat) {A : LH} {v0 : Option Nat} {v1 : Int32} {p : Int32 × LH} (h : b_X11_act N A v0 v1 = some p) : V g m_X11_act 2 n0 z0 (some (LI p.1)) p.2 A 0 [some (LR v0), some (LI v1)] [] := by
  unfold b_X11_act at h
  refine V.aload_n dX11_act_0 rfl rfl ?_
  refine V.ldc2 kc_RX11_218 dX11_act_1 ?_
  obtain ⟨p1, h2, h⟩ := bnd h
  have w3 := w_X11_isWord (g := g) h2
  refine V.callVi (args := [LJ (6385273 : Int64)]) (st := []) w3.1 (oo_X11_isWord h2) mk_X11_isWord w3.2 vc_11 ml_RX11_170 im_X11_isWord se_X11_isWord rfl (Nat.le_of_ble_eq_true rfl) (by decide) rfl (Nat.le_of_ble_eq_true rfl) dX11_act_4 ?_
  refine V.if_eq (tgt := 14) dX11_act_7 (by decide) (fun c4 => ?_) (fun c4 => ?_)
  · have h := (if_pos c4).symm.trans h
    refine V.aload_n dX11_act_14 rfl rfl ?_
    refine V.ldc2 kc_RX11_220 dX11_act_15 ?_
    obtain ⟨p5, h6, h⟩ := bnd h
    have w7 := w_X11_isWord (g := g) h6
    refine V.callVi (args := [LJ (1919246692 : Int64)]) (st := []) w7.1 (oo_X11_isWord h6) mk_X11_isWord w7.2 vc_11 ml_RX11_170 im_X11_isWord se_X11_isWord rfl (Nat.le_of_ble_eq_true rfl) (by decide) rfl (Nat.le_of_ble_eq_true rfl) dX11_act_18 ?_
    refine V.if_eq (tgt := 28) dX11_act_21 (by decide) (fun c8 => ?_) (fun c8 => ?_)
    · have h := (if_pos c8).symm.trans h
      refine V.aload_n dX11_act_28 rfl rfl ?_
      refine V.ldc2 kc_RX11_222 dX11_act_29 ?_
      obtain ⟨p9, h10, h⟩ := bnd h
      have w11 := w_X11_isWord (g := g) h10
      refine V.callVi (args := [LJ (513020621925 : Int64)]) (st := []) w11.1 (oo_X11_isWord h10) mk_X11_isWord w11.2 vc_11 ml_RX11_170 im_X11_isWord se_X11_isWord rfl (Nat.le_of_ble_eq_true rfl) (by decide) rfl (Nat.le_of_ble_eq_true rfl) dX11_act_32 ?_
      refine V.if_eq (tgt := 42) dX11_act_35 (by decide) (fun c12 => ?_) (fun c12 => ?_)
      · have h := (if_pos c12).symm.trans h
        refine V.aload_n dX11_act_42 rfl rfl ?_
        refine V.ldc2 kc_RX11_224 dX11_act_43 ?_
        obtain ⟨p13, h14, h⟩ := bnd h
        have w15 := w_X11_isWord (g := g) h14
        refine V.callVi (args := [LJ (495672455781 : Int64)]) (st := []) w15.1 (oo_X11_isWord h14) mk_X11_isWord w15.2 vc_11 ml_RX11_170 im_X11_isWord se_X11_isWord rfl (Nat.le_of_ble_eq_true rfl) (by decide) rfl (Nat.le_of_ble_eq_true rfl) dX11_act_46 ?_
        refine V.if_eq (tgt := 56) dX11_act_49 (by decide) (fun c16 => ?_) (fun c16 => ?_)
        · have h := (if_pos c16).symm.trans h
          refine V.aload_n dX11_act_56 rfl rfl ?_
          refine V.ldc2 kc_RX11_226 dX11_act_57 ?_
          obtain ⟨p17, h18, h⟩ := bnd h
          have w19 := w_X11_isWord (g := g) h18
          refine V.callVi (args := [LJ (1685221232 : Int64)]) (st := []) w19.1 (oo_X11_isWord h18) mk_X11_isWord w19.2 vc_11 ml_RX11_170 im_X11_isWord se_X11_isWord rfl (Nat.le_of_ble_eq_true rfl) (by decide) rfl (Nat.le_of_ble_eq_true rfl) dX11_act_60 ?_
          refine V.if_eq (tgt := 70) dX11_act_63 (by decide) (fun c20 => ?_) (fun c20 => ?_)
          · have h := (if_pos c20).symm.trans h
            refine V.iconst dX11_act_70 ki_m1 ?_
            refine V.weak [true, true] ?_
            exact wb_X11_act_71 N h
          · have h := (if_neg c20).symm.trans h
            refine V.iconst dX11_act_66 ki_3 ?_
            refine V.goto (tgt := 71) dX11_act_67 (by decide) ?_
            refine V.weak [true, true] ?_
            exact wb_X11_act_71 N h
        · have h := (if_neg c16).symm.trans h
          refine V.iconst dX11_act_52 ki_2 ?_
          refine V.goto (tgt := 71) dX11_act_53 (by decide) ?_
          refine V.weak [true, true] ?_
          exact wb_X11_act_71 N h
      · have h := (if_neg c12).symm.trans h
        refine V.iconst dX11_act_38 ki_1 ?_
        refine V.goto (tgt := 71) dX11_act_39 (by decide) ?_
        refine V.weak [true, true] ?_
        exact wb_X11_act_71 N h
    · have h := (if_neg c8).symm.trans h
      refine V.iconst dX11_act_24 ki_0 ?_
      refine V.goto (tgt := 71) dX11_act_25 (by decide) ?_
      refine V.weak [true, true] ?_
      exact wb_X11_act_71 N h
  · have h := (if_neg c4).symm.trans h
    refine V.iconst dX11_act_10 ki_4 ?_
    refine V.goto (tgt := 71) dX11_act_11 (by decide) ?_
    refine V.weak [true, true] ?_
    exact wb_X11_act_71 N h
def f_X11_act (N : Nat) (A : LH) (v0 : Option Nat) (v1 : Int32) : Option (Int32 × LH) := if isO A v0 11 = true then zc (b_X11_act N A v0 v1) else none
theorem w_X11_act {g : GG} (N : Nat) {A : LH} {v0 : Option Nat} {v1 : Int32} {p : Int32 × LH} (h : f_X11_act N A v0 v1 = some p) : Ct g m_X11_act 2 [LR v0, LI v1] A (some (LI p.1)) p.2 := by
  unfold f_X11_act at h
  obtain ⟨ho, h⟩ := ifN h
  obtain ⟨h, hz⟩ := zc_sp h
  exact ⟨wb_X11_act N h, (RTz hz)⟩
theorem oo_X11_act {N : Nat} {A : LH} {v0 : Option Nat} {v1 : Int32} {p : Int32 × LH} (h : f_X11_act N A v0 v1 = some p) : isO A v0 11 = true := by unfold f_X11_act at h; exact (ifN h).1
def b_X11_term_108 (N : Nat) (A : LH) (v0 : Option Nat) (s0 : Int32) (s1 : Int32) (s2 : Option Nat) : Option (Int32 × LH) :=
  (f_X11_put A s2 s1 s0).bind fun p26 => (f_X11_next N p26 v0).bind fun p29 => some ((1 : Int32), p29)
set_option maxRecDepth 4000 in
theorem wb_X11_term_108 {g : GG} {n0 z0 : Nat} (N : Nat) {A : LH} {v0 : Option Nat} {s0 : Int32} {s1 : Int32} {s2 : Option Nat} {p : Int32 × LH} (h : b_X11_term_108 N A v0 s0 s1 s2 = some p) : V g m_X11_term 2 n0 z0 (some (LI p.1)) p.2 A 108 [some (LR v0)] [LI s0, LI s1, LR s2] := by
  unfold b_X11_term_108 at h
  obtain ⟨p26, h27, h⟩ := bnd h
  have w28 := w_X11_put (g := g) h27
  refine V.callVv (args := [LI s1, LI s0]) (st := []) w28.1 (oo_X11_put h27) mk_X11_put w28.2 vc_11 ml_RX11_202 im_X11_put se_X11_put rfl (Nat.le_of_ble_eq_true rfl) (by decide) rfl (Nat.le_of_ble_eq_true rfl) dX11_term_108 ?_
  refine V.aload_n dX11_term_111 rfl rfl ?_
  obtain ⟨p29, h30, h⟩ := bnd h
  have w31 := w_X11_next (g := g) N h30
  refine V.callVv (args := []) (st := []) w31.1 (oo_X11_next h30) mk_X11_next w31.2 vc_11 ml_RX11_152 im_X11_next se_X11_next rfl (Nat.le_of_ble_eq_true rfl) (by decide) rfl (Nat.le_of_ble_eq_true rfl) dX11_term_112 ?_
  refine V.iconst dX11_term_115 ki_1 ?_
  obtain rfl := Option.some.inj h
  exact V.ireturn dX11_term_116
def b_X11_term_83 (N : Nat) (A : LH) (v0 : Option Nat) (s0 : Int32) : Option (Int32 × LH) :=
  if s0 = (-1 : Int32) then (f_X11_wrong A v0).bind fun p34 => some (p34.1, p34.2) else if s0 = 0 then (gI A v0 11 22).bind fun x32 => b_X11_term_108 N A v0 x32 s0 v0 else b_X11_term_108 N A v0 (0 : Int32) s0 v0
set_option maxRecDepth 4000 in
theorem wb_X11_term_83 {g : GG} {n0 z0 : Nat} (N : Nat) {A : LH} {v0 : Option Nat} {s0 : Int32} {p : Int32 × LH} (h : b_X11_term_83 N A v0 s0 = some p) : V g m_X11_term 2 n0 z0 (some (LI p.1)) p.2 A 83 [some (LR v0)] [LI s0] := by
  unfold b_X11_term_83 at h
  refine V.istore_n (ls' := [some (LR v0), some (LI s0)]) dX11_term_83 rfl (by decide) rfl rfl ?_
  refine V.iload_n dX11_term_84 rfl rfl ?_
  refine V.iconst dX11_term_85 ki_m1 ?_
  refine V.icmp_ne (tgt := 94) dX11_term_86 (by decide) (fun c24 => ?_) (fun c24 => ?_)
  · have h := (if_neg c24).symm.trans h
    refine V.aload_n dX11_term_94 rfl rfl ?_
    refine V.iload_n dX11_term_95 rfl rfl ?_
    refine V.iload_n dX11_term_96 rfl rfl ?_
    refine V.if_ne (tgt := 107) dX11_term_97 (by decide) (fun c25 => ?_) (fun c25 => ?_)
    · have h := (if_neg c25).symm.trans h
      refine V.iconst dX11_term_107 ki_0 ?_
      refine V.weak [true] ?_
      exact wb_X11_term_108 N h
    · have h := (if_pos c25).symm.trans h
      refine V.aload_n dX11_term_100 rfl rfl ?_
      obtain ⟨x32, h33, h⟩ := bnd h
      refine V.getF (gI_F h33) CF11 (Nat.le_of_ble_eq_true rfl) fl_RX11_125 dX11_term_101 ?_
      refine V.goto (tgt := 108) dX11_term_104 (by decide) ?_
      refine V.weak [true] ?_
      exact wb_X11_term_108 N h
  · have h := (if_pos c24).symm.trans h
    refine V.aload_n dX11_term_89 rfl rfl ?_
    obtain ⟨p34, h35, h⟩ := bnd h
    have w36 := w_X11_wrong (g := g) h35
    refine V.callVi (args := []) (st := []) w36.1 (oo_X11_wrong h35) mk_X11_wrong w36.2 vc_11 ml_RX11_148 im_X11_wrong se_X11_wrong rfl (Nat.le_of_ble_eq_true rfl) (by decide) rfl (Nat.le_of_ble_eq_true rfl) dX11_term_90 ?_
    obtain rfl := Option.some.inj h
    exact V.ireturn dX11_term_93
def b_X11_term (N : Nat) (A : LH) (v0 : Option Nat) : Option (Int32 × LH) :=
  (gI A v0 11 21).bind fun x1 => if x1 = (3 : Int32) then b_X11_term_83 N A v0 (0 : Int32) else (f_X11_isWord A v0 (1752135026 : Int64)).bind fun p4 => if p4 = 0 then (f_X11_isWord A v0 (427020345714 : Int64)).bind fun p8 => if p8 = 0 then (f_X11_isWord A v0 (465558725996 : Int64)).bind fun p12 => if p12 = 0 then (f_X11_isWord A v0 (1802071652 : Int64)).bind fun p16 => if p16 = 0 then (f_X11_isWord A v0 (113741193900147 : Int64)).bind fun p20 => if p20 = 0 then b_X11_term_83 N A v0 (-1 : Int32) else b_X11_term_83 N A v0 (5 : Int32) else b_X11_term_83 N A v0 (4 : Int32) else b_X11_term_83 N A v0 (3 : Int32) else b_X11_term_83 N A v0 (2 : Int32) else b_X11_term_83 N A v0 (1 : Int32)
set_option maxRecDepth 4000 in
theorem wb_X11_term {g : GG} {n0 z0 : Nat} (N : Nat) {A : LH} {v0 : Option Nat} {p : Int32 × LH} (h : b_X11_term N A v0 = some p) : V g m_X11_term 2 n0 z0 (some (LI p.1)) p.2 A 0 [some (LR v0)] [] := by
  unfold b_X11_term at h
  refine V.aload_n dX11_term_0 rfl rfl ?_
  obtain ⟨x1, h2, h⟩ := bnd h
  refine V.getF (gI_F h2) CF11 (Nat.le_of_ble_eq_true rfl) fl_RX11_132 dX11_term_1 ?_
  refine V.iconst dX11_term_4 ki_3 ?_
  refine V.icmp_ne (tgt := 12) dX11_term_5 (by decide) (fun c3 => ?_) (fun c3 => ?_)
  · have h := (if_neg c3).symm.trans h
    refine V.aload_n dX11_term_12 rfl rfl ?_
    refine V.ldc2 kc_RX11_255 dX11_term_13 ?_
    obtain ⟨p4, h5, h⟩ := bnd h
    have w6 := w_X11_isWord (g := g) h5
    refine V.callVi (args := [LJ (1752135026 : Int64)]) (st := []) w6.1 (oo_X11_isWord h5) mk_X11_isWord w6.2 vc_11 ml_RX11_170 im_X11_isWord se_X11_isWord rfl (Nat.le_of_ble_eq_true rfl) (by decide) rfl (Nat.le_of_ble_eq_true rfl) dX11_term_16 ?_
    refine V.if_eq (tgt := 26) dX11_term_19 (by decide) (fun c7 => ?_) (fun c7 => ?_)
    · have h := (if_pos c7).symm.trans h
      refine V.aload_n dX11_term_26 rfl rfl ?_
      refine V.ldc2 kc_RX11_213 dX11_term_27 ?_
      obtain ⟨p8, h9, h⟩ := bnd h
      have w10 := w_X11_isWord (g := g) h9
      refine V.callVi (args := [LJ (427020345714 : Int64)]) (st := []) w10.1 (oo_X11_isWord h9) mk_X11_isWord w10.2 vc_11 ml_RX11_170 im_X11_isWord se_X11_isWord rfl (Nat.le_of_ble_eq_true rfl) (by decide) rfl (Nat.le_of_ble_eq_true rfl) dX11_term_30 ?_
      refine V.if_eq (tgt := 40) dX11_term_33 (by decide) (fun c11 => ?_) (fun c11 => ?_)
      · have h := (if_pos c11).symm.trans h
        refine V.aload_n dX11_term_40 rfl rfl ?_
        refine V.ldc2 kc_RX11_232 dX11_term_41 ?_
        obtain ⟨p12, h13, h⟩ := bnd h
        have w14 := w_X11_isWord (g := g) h13
        refine V.callVi (args := [LJ (465558725996 : Int64)]) (st := []) w14.1 (oo_X11_isWord h13) mk_X11_isWord w14.2 vc_11 ml_RX11_170 im_X11_isWord se_X11_isWord rfl (Nat.le_of_ble_eq_true rfl) (by decide) rfl (Nat.le_of_ble_eq_true rfl) dX11_term_44 ?_
        refine V.if_eq (tgt := 54) dX11_term_47 (by decide) (fun c15 => ?_) (fun c15 => ?_)
        · have h := (if_pos c15).symm.trans h
          refine V.aload_n dX11_term_54 rfl rfl ?_
          refine V.ldc2 kc_RX11_228 dX11_term_55 ?_
          obtain ⟨p16, h17, h⟩ := bnd h
          have w18 := w_X11_isWord (g := g) h17
          refine V.callVi (args := [LJ (1802071652 : Int64)]) (st := []) w18.1 (oo_X11_isWord h17) mk_X11_isWord w18.2 vc_11 ml_RX11_170 im_X11_isWord se_X11_isWord rfl (Nat.le_of_ble_eq_true rfl) (by decide) rfl (Nat.le_of_ble_eq_true rfl) dX11_term_58 ?_
          refine V.if_eq (tgt := 68) dX11_term_61 (by decide) (fun c19 => ?_) (fun c19 => ?_)
          · have h := (if_pos c19).symm.trans h
            refine V.aload_n dX11_term_68 rfl rfl ?_
            refine V.ldc2 kc_RX11_257 dX11_term_69 ?_
            obtain ⟨p20, h21, h⟩ := bnd h
            have w22 := w_X11_isWord (g := g) h21
            refine V.callVi (args := [LJ (113741193900147 : Int64)]) (st := []) w22.1 (oo_X11_isWord h21) mk_X11_isWord w22.2 vc_11 ml_RX11_170 im_X11_isWord se_X11_isWord rfl (Nat.le_of_ble_eq_true rfl) (by decide) rfl (Nat.le_of_ble_eq_true rfl) dX11_term_72 ?_
            refine V.if_eq (tgt := 82) dX11_term_75 (by decide) (fun c23 => ?_) (fun c23 => ?_)
            · have h := (if_pos c23).symm.trans h
              refine V.iconst dX11_term_82 ki_m1 ?_
              refine V.weak [true] ?_
              exact wb_X11_term_83 N h
            · have h := (if_neg c23).symm.trans h
              refine V.iconst dX11_term_78 ki_5 ?_
              refine V.goto (tgt := 83) dX11_term_79 (by decide) ?_
              refine V.weak [true] ?_
              exact wb_X11_term_83 N h
          · have h := (if_neg c19).symm.trans h
            refine V.iconst dX11_term_64 ki_4 ?_
            refine V.goto (tgt := 83) dX11_term_65 (by decide) ?_
            refine V.weak [true] ?_
            exact wb_X11_term_83 N h
        · have h := (if_neg c15).symm.trans h
          refine V.iconst dX11_term_50 ki_3 ?_
          refine V.goto (tgt := 83) dX11_term_51 (by decide) ?_
          refine V.weak [true] ?_
          exact wb_X11_term_83 N h
      · have h := (if_neg c11).symm.trans h
        refine V.iconst dX11_term_36 ki_2 ?_
        refine V.goto (tgt := 83) dX11_term_37 (by decide) ?_
        refine V.weak [true] ?_
        exact wb_X11_term_83 N h
    · have h := (if_neg c7).symm.trans h
      refine V.iconst dX11_term_22 ki_1 ?_
      refine V.goto (tgt := 83) dX11_term_23 (by decide) ?_
      refine V.weak [true] ?_
      exact wb_X11_term_83 N h
  · have h := (if_pos c3).symm.trans h
    refine V.iconst dX11_term_8 ki_0 ?_
    refine V.goto (tgt := 83) dX11_term_9 (by decide) ?_
    refine V.weak [true] ?_
    exact wb_X11_term_83 N h
def f_X11_term (N : Nat) (A : LH) (v0 : Option Nat) : Option (Int32 × LH) := if isO A v0 11 = true then zc (b_X11_term N A v0) else none
theorem w_X11_term {g : GG} (N : Nat) {A : LH} {v0 : Option Nat} {p : Int32 × LH} (h : f_X11_term N A v0 = some p) : Ct g m_X11_term 2 [LR v0] A (some (LI p.1)) p.2 := by
  unfold f_X11_term at h
  obtain ⟨ho, h⟩ := ifN h
  obtain ⟨h, hz⟩ := zc_sp h
  exact ⟨wb_X11_term N h, (RTz hz)⟩
theorem oo_X11_term {N : Nat} {A : LH} {v0 : Option Nat} {p : Int32 × LH} (h : f_X11_term N A v0 = some p) : isO A v0 11 = true := by unfold f_X11_term at h; exact (ifN h).1
def b_X11_part_110 (N : Nat) (kE : LH → Option Nat → Option (Int32 × LH)) (A : LH) (v0 : Option Nat) (s0 : Int32) : Option (Int32 × LH) :=
  if s0 = (-1 : Int32) then (f_X11_wrong A v0).bind fun p35 => some (p35.1, p35.2) else (f_X11_next N A v0).bind fun p26 => (f_X11_term N p26 v0).bind fun p29 => (f_X11_put p29.2 v0 s0 (0 : Int32)).bind fun p32 => some (p29.1, p32)
set_option maxRecDepth 4000 in
theorem wb_X11_part_110 {g : GG} {n0 z0 : Nat} (N : Nat) {kE : LH → Option Nat → Option (Int32 × LH)} {dR : Nat} (hEE : ∀ {B : LH} {x0 : Option Nat} {q : Int32 × LH}, kE B x0 = some q → Ct g m_X11_any dR [LR x0] B (some (LI q.1)) q.2 ∧ isO B x0 11 = true) {A : LH} {v0 : Option Nat} {s0 : Int32} {p : Int32 × LH} (h : b_X11_part_110 N kE A v0 s0 = some p) : V g m_X11_part (dR + 3) n0 z0 (some (LI p.1)) p.2 A 110 [some (LR v0)] [LI s0] := by
  unfold b_X11_part_110 at h
  refine V.istore_n (ls' := [some (LR v0), some (LI s0)]) dX11_part_110 rfl (by decide) rfl rfl ?_
  refine V.iload_n dX11_part_111 rfl rfl ?_
  refine V.iconst dX11_part_112 ki_m1 ?_
  refine V.icmp_ne (tgt := 121) dX11_part_113 (by decide) (fun c25 => ?_) (fun c25 => ?_)
  · have h := (if_neg c25).symm.trans h
    refine V.aload_n dX11_part_121 rfl rfl ?_
    obtain ⟨p26, h27, h⟩ := bnd h
    have w28 := w_X11_next (g := g) N h27
    refine V.callVv (args := []) (st := []) w28.1 (oo_X11_next h27) mk_X11_next w28.2 vc_11 ml_RX11_152 im_X11_next se_X11_next rfl (Nat.le_of_ble_eq_true rfl) (by omega) rfl (Nat.le_of_ble_eq_true rfl) dX11_part_122 ?_
    refine V.aload_n dX11_part_125 rfl rfl ?_
    obtain ⟨p29, h30, h⟩ := bnd h
    have w31 := w_X11_term (g := g) N h30
    refine V.callVi (args := []) (st := []) w31.1 (oo_X11_term h30) mk_X11_term w31.2 vc_11 ml_RX11_252 im_X11_term se_X11_term rfl (Nat.le_of_ble_eq_true rfl) (by omega) rfl (Nat.le_of_ble_eq_true rfl) dX11_part_126 ?_
    refine V.istore_n (ls' := [some (LR v0), some (LI s0), some (LI p29.1)]) dX11_part_129 rfl (by decide) rfl rfl ?_
    refine V.aload_n dX11_part_130 rfl rfl ?_
    refine V.iload_n dX11_part_131 rfl rfl ?_
    refine V.iconst dX11_part_132 ki_0 ?_
    obtain ⟨p32, h33, h⟩ := bnd h
    have w34 := w_X11_put (g := g) h33
    refine V.callVv (args := [LI s0, LI (0 : Int32)]) (st := []) w34.1 (oo_X11_put h33) mk_X11_put w34.2 vc_11 ml_RX11_202 im_X11_put se_X11_put rfl (Nat.le_of_ble_eq_true rfl) (by omega) rfl (Nat.le_of_ble_eq_true rfl) dX11_part_133 ?_
    refine V.iload_n dX11_part_136 rfl rfl ?_
    obtain rfl := Option.some.inj h
    exact V.ireturn dX11_part_137
  · have h := (if_pos c25).symm.trans h
    refine V.aload_n dX11_part_116 rfl rfl ?_
    obtain ⟨p35, h36, h⟩ := bnd h
    have w37 := w_X11_wrong (g := g) h36
    refine V.callVi (args := []) (st := []) w37.1 (oo_X11_wrong h36) mk_X11_wrong w37.2 vc_11 ml_RX11_148 im_X11_wrong se_X11_wrong rfl (Nat.le_of_ble_eq_true rfl) (by omega) rfl (Nat.le_of_ble_eq_true rfl) dX11_part_117 ?_
    obtain rfl := Option.some.inj h
    exact V.ireturn dX11_part_120
def b_X11_part (N : Nat) (kE : LH → Option Nat → Option (Int32 × LH)) (A : LH) (v0 : Option Nat) : Option (Int32 × LH) :=
  (f_X11_isSign A v0 (40 : Int32)).bind fun p1 => if p1 = 0 then (f_X11_isWord A v0 (478745093490 : Int64)).bind fun p5 => if p5 = 0 then (f_X11_term N A v0).bind fun p9 => if p9.1 = 0 then some ((0 : Int32), p9.2) else (f_X11_isSign p9.2 v0 (60 : Int32)).bind fun p13 => if p13 = 0 then (f_X11_isSign p9.2 v0 (62 : Int32)).bind fun p17 => if p17 = 0 then (f_X11_isSign p9.2 v0 (61 : Int32)).bind fun p21 => if p21 = 0 then b_X11_part_110 N kE p9.2 v0 (-1 : Int32) else b_X11_part_110 N kE p9.2 v0 (9 : Int32) else b_X11_part_110 N kE p9.2 v0 (8 : Int32) else b_X11_part_110 N kE p9.2 v0 (7 : Int32) else (f_X11_next N A v0).bind fun p38 => (f_X11_put p38 v0 (6 : Int32) (0 : Int32)).bind fun p41 => some ((1 : Int32), p41) else (f_X11_next N A v0).bind fun p44 => (kE p44 v0).bind fun p47 => if p47.1 = 0 then some ((0 : Int32), p47.2) else (f_X11_need N p47.2 v0 (41 : Int32)).bind fun p51 => if p51.1 = 0 then some ((0 : Int32), p51.2) else some ((1 : Int32), p51.2)
set_option maxRecDepth 4000 in
theorem wb_X11_part {g : GG} {n0 z0 : Nat} (N : Nat) {kE : LH → Option Nat → Option (Int32 × LH)} {dR : Nat} (hEE : ∀ {B : LH} {x0 : Option Nat} {q : Int32 × LH}, kE B x0 = some q → Ct g m_X11_any dR [LR x0] B (some (LI q.1)) q.2 ∧ isO B x0 11 = true) {A : LH} {v0 : Option Nat} {p : Int32 × LH} (h : b_X11_part N kE A v0 = some p) : V g m_X11_part (dR + 3) n0 z0 (some (LI p.1)) p.2 A 0 [some (LR v0)] [] := by
  unfold b_X11_part at h
  refine V.aload_n dX11_part_0 rfl rfl ?_
  refine V.bipush dX11_part_1 kb_40 ?_
  obtain ⟨p1, h2, h⟩ := bnd h
  have w3 := w_X11_isSign (g := g) h2
  refine V.callVi (args := [LI (40 : Int32)]) (st := []) w3.1 (oo_X11_isSign h2) mk_X11_isSign w3.2 vc_11 ml_RX11_144 im_X11_isSign se_X11_isSign rfl (Nat.le_of_ble_eq_true rfl) (by omega) rfl (Nat.le_of_ble_eq_true rfl) dX11_part_3 ?_
  refine V.if_eq (tgt := 35) dX11_part_6 (by decide) (fun c4 => ?_) (fun c4 => ?_)
  · have h := (if_pos c4).symm.trans h
    refine V.aload_n dX11_part_35 rfl rfl ?_
    refine V.ldc2 kc_RX11_211 dX11_part_36 ?_
    obtain ⟨p5, h6, h⟩ := bnd h
    have w7 := w_X11_isWord (g := g) h6
    refine V.callVi (args := [LJ (478745093490 : Int64)]) (st := []) w7.1 (oo_X11_isWord h6) mk_X11_isWord w7.2 vc_11 ml_RX11_170 im_X11_isWord se_X11_isWord rfl (Nat.le_of_ble_eq_true rfl) (by omega) rfl (Nat.le_of_ble_eq_true rfl) dX11_part_39 ?_
    refine V.if_eq (tgt := 58) dX11_part_42 (by decide) (fun c8 => ?_) (fun c8 => ?_)
    · have h := (if_pos c8).symm.trans h
      refine V.aload_n dX11_part_58 rfl rfl ?_
      obtain ⟨p9, h10, h⟩ := bnd h
      have w11 := w_X11_term (g := g) N h10
      refine V.callVi (args := []) (st := []) w11.1 (oo_X11_term h10) mk_X11_term w11.2 vc_11 ml_RX11_252 im_X11_term se_X11_term rfl (Nat.le_of_ble_eq_true rfl) (by omega) rfl (Nat.le_of_ble_eq_true rfl) dX11_part_59 ?_
      refine V.if_ne (tgt := 67) dX11_part_62 (by decide) (fun c12 => ?_) (fun c12 => ?_)
      · have h := (if_neg c12).symm.trans h
        refine V.aload_n dX11_part_67 rfl rfl ?_
        refine V.bipush dX11_part_68 kb_60 ?_
        obtain ⟨p13, h14, h⟩ := bnd h
        have w15 := w_X11_isSign (g := g) h14
        refine V.callVi (args := [LI (60 : Int32)]) (st := []) w15.1 (oo_X11_isSign h14) mk_X11_isSign w15.2 vc_11 ml_RX11_144 im_X11_isSign se_X11_isSign rfl (Nat.le_of_ble_eq_true rfl) (by omega) rfl (Nat.le_of_ble_eq_true rfl) dX11_part_70 ?_
        refine V.if_eq (tgt := 81) dX11_part_73 (by decide) (fun c16 => ?_) (fun c16 => ?_)
        · have h := (if_pos c16).symm.trans h
          refine V.aload_n dX11_part_81 rfl rfl ?_
          refine V.bipush dX11_part_82 kb_62 ?_
          obtain ⟨p17, h18, h⟩ := bnd h
          have w19 := w_X11_isSign (g := g) h18
          refine V.callVi (args := [LI (62 : Int32)]) (st := []) w19.1 (oo_X11_isSign h18) mk_X11_isSign w19.2 vc_11 ml_RX11_144 im_X11_isSign se_X11_isSign rfl (Nat.le_of_ble_eq_true rfl) (by omega) rfl (Nat.le_of_ble_eq_true rfl) dX11_part_84 ?_
          refine V.if_eq (tgt := 95) dX11_part_87 (by decide) (fun c20 => ?_) (fun c20 => ?_)
          · have h := (if_pos c20).symm.trans h
            refine V.aload_n dX11_part_95 rfl rfl ?_
            refine V.bipush dX11_part_96 kb_61 ?_
            obtain ⟨p21, h22, h⟩ := bnd h
            have w23 := w_X11_isSign (g := g) h22
            refine V.callVi (args := [LI (61 : Int32)]) (st := []) w23.1 (oo_X11_isSign h22) mk_X11_isSign w23.2 vc_11 ml_RX11_144 im_X11_isSign se_X11_isSign rfl (Nat.le_of_ble_eq_true rfl) (by omega) rfl (Nat.le_of_ble_eq_true rfl) dX11_part_98 ?_
            refine V.if_eq (tgt := 109) dX11_part_101 (by decide) (fun c24 => ?_) (fun c24 => ?_)
            · have h := (if_pos c24).symm.trans h
              refine V.iconst dX11_part_109 ki_m1 ?_
              refine V.weak [true] ?_
              exact wb_X11_part_110 N hEE h
            · have h := (if_neg c24).symm.trans h
              refine V.bipush dX11_part_104 kb_9 ?_
              refine V.goto (tgt := 110) dX11_part_106 (by decide) ?_
              refine V.weak [true] ?_
              exact wb_X11_part_110 N hEE h
          · have h := (if_neg c20).symm.trans h
            refine V.bipush dX11_part_90 kb_8 ?_
            refine V.goto (tgt := 110) dX11_part_92 (by decide) ?_
            refine V.weak [true] ?_
            exact wb_X11_part_110 N hEE h
        · have h := (if_neg c16).symm.trans h
          refine V.bipush dX11_part_76 kb_7 ?_
          refine V.goto (tgt := 110) dX11_part_78 (by decide) ?_
          refine V.weak [true] ?_
          exact wb_X11_part_110 N hEE h
      · have h := (if_pos c12).symm.trans h
        refine V.iconst dX11_part_65 ki_0 ?_
        obtain rfl := Option.some.inj h
        exact V.ireturn dX11_part_66
    · have h := (if_neg c8).symm.trans h
      refine V.aload_n dX11_part_45 rfl rfl ?_
      obtain ⟨p38, h39, h⟩ := bnd h
      have w40 := w_X11_next (g := g) N h39
      refine V.callVv (args := []) (st := []) w40.1 (oo_X11_next h39) mk_X11_next w40.2 vc_11 ml_RX11_152 im_X11_next se_X11_next rfl (Nat.le_of_ble_eq_true rfl) (by omega) rfl (Nat.le_of_ble_eq_true rfl) dX11_part_46 ?_
      refine V.aload_n dX11_part_49 rfl rfl ?_
      refine V.bipush dX11_part_50 kb_6 ?_
      refine V.iconst dX11_part_52 ki_0 ?_
      obtain ⟨p41, h42, h⟩ := bnd h
      have w43 := w_X11_put (g := g) h42
      refine V.callVv (args := [LI (6 : Int32), LI (0 : Int32)]) (st := []) w43.1 (oo_X11_put h42) mk_X11_put w43.2 vc_11 ml_RX11_202 im_X11_put se_X11_put rfl (Nat.le_of_ble_eq_true rfl) (by omega) rfl (Nat.le_of_ble_eq_true rfl) dX11_part_53 ?_
      refine V.iconst dX11_part_56 ki_1 ?_
      obtain rfl := Option.some.inj h
      exact V.ireturn dX11_part_57
  · have h := (if_neg c4).symm.trans h
    refine V.aload_n dX11_part_9 rfl rfl ?_
    obtain ⟨p44, h45, h⟩ := bnd h
    have w46 := w_X11_next (g := g) N h45
    refine V.callVv (args := []) (st := []) w46.1 (oo_X11_next h45) mk_X11_next w46.2 vc_11 ml_RX11_152 im_X11_next se_X11_next rfl (Nat.le_of_ble_eq_true rfl) (by omega) rfl (Nat.le_of_ble_eq_true rfl) dX11_part_10 ?_
    refine V.aload_n dX11_part_13 rfl rfl ?_
    obtain ⟨p47, h48, h⟩ := bnd h
    obtain ⟨w49, ow49⟩ := hEE h48
    refine V.callVi (args := []) (st := []) w49.1 ow49 mk_X11_any w49.2 vc_11 ml_RX11_199 im_X11_any se_X11_any rfl (Nat.le_of_ble_eq_true rfl) (by omega) rfl (Nat.le_of_ble_eq_true rfl) dX11_part_14 ?_
    refine V.if_eq (tgt := 33) dX11_part_17 (by decide) (fun c50 => ?_) (fun c50 => ?_)
    · have h := (if_pos c50).symm.trans h
      refine V.iconst dX11_part_33 ki_0 ?_
      obtain rfl := Option.some.inj h
      exact V.ireturn dX11_part_34
    · have h := (if_neg c50).symm.trans h
      refine V.aload_n dX11_part_20 rfl rfl ?_
      refine V.bipush dX11_part_21 kb_41 ?_
      obtain ⟨p51, h52, h⟩ := bnd h
      have w53 := w_X11_need (g := g) N h52
      refine V.callVi (args := [LI (41 : Int32)]) (st := []) w53.1 (oo_X11_need h52) mk_X11_need w53.2 vc_11 ml_RX11_182 im_X11_need se_X11_need rfl (Nat.le_of_ble_eq_true rfl) (by omega) rfl (Nat.le_of_ble_eq_true rfl) dX11_part_23 ?_
      refine V.if_eq (tgt := 33) dX11_part_26 (by decide) (fun c54 => ?_) (fun c54 => ?_)
      · have h := (if_pos c54).symm.trans h
        refine V.iconst dX11_part_33 ki_0 ?_
        obtain rfl := Option.some.inj h
        exact V.ireturn dX11_part_34
      · have h := (if_neg c54).symm.trans h
        refine V.iconst dX11_part_29 ki_1 ?_
        refine V.goto (tgt := 34) dX11_part_30 (by decide) ?_
        obtain rfl := Option.some.inj h
        exact V.ireturn dX11_part_34
def f_X11_part (N : Nat) (kE : LH → Option Nat → Option (Int32 × LH)) (A : LH) (v0 : Option Nat) : Option (Int32 × LH) := if isO A v0 11 = true then zc (b_X11_part N kE A v0) else none
theorem w_X11_part {g : GG} (N : Nat) {kE : LH → Option Nat → Option (Int32 × LH)} {dR : Nat} (hEE : ∀ {B : LH} {x0 : Option Nat} {q : Int32 × LH}, kE B x0 = some q → Ct g m_X11_any dR [LR x0] B (some (LI q.1)) q.2 ∧ isO B x0 11 = true) {A : LH} {v0 : Option Nat} {p : Int32 × LH} (h : f_X11_part N kE A v0 = some p) : Ct g m_X11_part (dR + 3) [LR v0] A (some (LI p.1)) p.2 := by
  unfold f_X11_part at h
  obtain ⟨ho, h⟩ := ifN h
  obtain ⟨h, hz⟩ := zc_sp h
  exact ⟨wb_X11_part N hEE h, (RTz hz)⟩
theorem oo_X11_part {N : Nat} {kE : LH → Option Nat → Option (Int32 × LH)} {A : LH} {v0 : Option Nat} {p : Int32 × LH} (h : f_X11_part N kE A v0 = some p) : isO A v0 11 = true := by unfold f_X11_part at h; exact (ifN h).1
def b_X11_negated_16 (N : Nat) (kE : LH → Option Nat → Option (Int32 × LH)) (A : LH) (v0 : Option Nat) (v1 : Int32) : Option (Int32 × LH) :=
  (f_X11_part N kE A v0).bind fun p5 => if p5.1 = 0 then some (p5.1, p5.2) else if v1 = 0 then some (p5.1, p5.2) else (f_X11_put p5.2 v0 (10 : Int32) (0 : Int32)).bind fun p10 => some (p5.1, p10)
set_option maxRecDepth 4000 in
theorem wb_X11_negated_16 {g : GG} {n0 z0 : Nat} (N : Nat) {kE : LH → Option Nat → Option (Int32 × LH)} {dR : Nat} (hEE : ∀ {B : LH} {x0 : Option Nat} {q : Int32 × LH}, kE B x0 = some q → Ct g m_X11_any dR [LR x0] B (some (LI q.1)) q.2 ∧ isO B x0 11 = true) {A : LH} {v0 : Option Nat} {v1 : Int32} {p : Int32 × LH} (h : b_X11_negated_16 N kE A v0 v1 = some p) : V g m_X11_negated (dR + 4) n0 z0 (some (LI p.1)) p.2 A 16 [some (LR v0), some (LI v1)] [] := by
  unfold b_X11_negated_16 at h
  refine V.aload_n dX11_negated_16 rfl rfl ?_
  obtain ⟨p5, h6, h⟩ := bnd h
  have w7 := w_X11_part (g := g) N hEE h6
  refine V.callVi (args := []) (st := []) w7.1 (oo_X11_part h6) mk_X11_part w7.2 vc_11 ml_RX11_249 im_X11_part se_X11_part rfl (Nat.le_of_ble_eq_true rfl) (by omega) rfl (Nat.le_of_ble_eq_true rfl) dX11_negated_17 ?_
  refine V.istore_n (ls' := [some (LR v0), some (LI v1), some (LI p5.1)]) dX11_negated_20 rfl (by decide) rfl rfl ?_
  refine V.iload_n dX11_negated_21 rfl rfl ?_
  refine V.if_eq (tgt := 36) dX11_negated_22 (by decide) (fun c8 => ?_) (fun c8 => ?_)
  · have h := (if_pos c8).symm.trans h
    refine V.iload_n dX11_negated_36 rfl rfl ?_
    obtain rfl := Option.some.inj h
    exact V.ireturn dX11_negated_37
  · have h := (if_neg c8).symm.trans h
    refine V.iload_n dX11_negated_25 rfl rfl ?_
    refine V.if_eq (tgt := 36) dX11_negated_26 (by decide) (fun c9 => ?_) (fun c9 => ?_)
    · have h := (if_pos c9).symm.trans h
      refine V.iload_n dX11_negated_36 rfl rfl ?_
      obtain rfl := Option.some.inj h
      exact V.ireturn dX11_negated_37
    · have h := (if_neg c9).symm.trans h
      refine V.aload_n dX11_negated_29 rfl rfl ?_
      refine V.bipush dX11_negated_30 kb_10 ?_
      refine V.iconst dX11_negated_32 ki_0 ?_
      obtain ⟨p10, h11, h⟩ := bnd h
      have w12 := w_X11_put (g := g) h11
      refine V.callVv (args := [LI (10 : Int32), LI (0 : Int32)]) (st := []) w12.1 (oo_X11_put h11) mk_X11_put w12.2 vc_11 ml_RX11_202 im_X11_put se_X11_put rfl (Nat.le_of_ble_eq_true rfl) (by omega) rfl (Nat.le_of_ble_eq_true rfl) dX11_negated_33 ?_
      refine V.iload_n dX11_negated_36 rfl rfl ?_
      obtain rfl := Option.some.inj h
      exact V.ireturn dX11_negated_37
def b_X11_negated (N : Nat) (kE : LH → Option Nat → Option (Int32 × LH)) (A : LH) (v0 : Option Nat) : Option (Int32 × LH) :=
  (f_X11_isWord A v0 (7237492 : Int64)).bind fun p1 => if p1 = 0 then b_X11_negated_16 N kE A v0 p1 else (f_X11_next N A v0).bind fun p13 => b_X11_negated_16 N kE p13 v0 p1
set_option maxRecDepth 4000 in
theorem wb_X11_negated {g : GG} {n0 z0 : Nat} (N : Nat) {kE : LH → Option Nat → Option (Int32 × LH)} {dR : Nat} (hEE : ∀ {B : LH} {x0 : Option Nat} {q : Int32 × LH}, kE B x0 = some q → Ct g m_X11_any dR [LR x0] B (some (LI q.1)) q.2 ∧ isO B x0 11 = true) {A : LH} {v0 : Option Nat} {p : Int32 × LH} (h : b_X11_negated N kE A v0 = some p) : V g m_X11_negated (dR + 4) n0 z0 (some (LI p.1)) p.2 A 0 [some (LR v0)] [] := by
  unfold b_X11_negated at h
  refine V.aload_n dX11_negated_0 rfl rfl ?_
  refine V.ldc2 kc_RX11_247 dX11_negated_1 ?_
  obtain ⟨p1, h2, h⟩ := bnd h
  have w3 := w_X11_isWord (g := g) h2
  refine V.callVi (args := [LJ (7237492 : Int64)]) (st := []) w3.1 (oo_X11_isWord h2) mk_X11_isWord w3.2 vc_11 ml_RX11_170 im_X11_isWord se_X11_isWord rfl (Nat.le_of_ble_eq_true rfl) (by omega) rfl (Nat.le_of_ble_eq_true rfl) dX11_negated_4 ?_
  refine V.istore_n (ls' := [some (LR v0), some (LI p1)]) dX11_negated_7 rfl (by decide) rfl rfl ?_
  refine V.iload_n dX11_negated_8 rfl rfl ?_
  refine V.if_eq (tgt := 16) dX11_negated_9 (by decide) (fun c4 => ?_) (fun c4 => ?_)
  · have h := (if_pos c4).symm.trans h
    refine V.weak [true, true] ?_
    exact wb_X11_negated_16 N hEE h
  · have h := (if_neg c4).symm.trans h
    refine V.aload_n dX11_negated_12 rfl rfl ?_
    obtain ⟨p13, h14, h⟩ := bnd h
    have w15 := w_X11_next (g := g) N h14
    refine V.callVv (args := []) (st := []) w15.1 (oo_X11_next h14) mk_X11_next w15.2 vc_11 ml_RX11_152 im_X11_next se_X11_next rfl (Nat.le_of_ble_eq_true rfl) (by omega) rfl (Nat.le_of_ble_eq_true rfl) dX11_negated_13 ?_
    refine V.weak [true, true] ?_
    exact wb_X11_negated_16 N hEE h
def f_X11_negated (N : Nat) (kE : LH → Option Nat → Option (Int32 × LH)) (A : LH) (v0 : Option Nat) : Option (Int32 × LH) := if isO A v0 11 = true then zc (b_X11_negated N kE A v0) else none
theorem w_X11_negated {g : GG} (N : Nat) {kE : LH → Option Nat → Option (Int32 × LH)} {dR : Nat} (hEE : ∀ {B : LH} {x0 : Option Nat} {q : Int32 × LH}, kE B x0 = some q → Ct g m_X11_any dR [LR x0] B (some (LI q.1)) q.2 ∧ isO B x0 11 = true) {A : LH} {v0 : Option Nat} {p : Int32 × LH} (h : f_X11_negated N kE A v0 = some p) : Ct g m_X11_negated (dR + 4) [LR v0] A (some (LI p.1)) p.2 := by
  unfold f_X11_negated at h
  obtain ⟨ho, h⟩ := ifN h
  obtain ⟨h, hz⟩ := zc_sp h
  exact ⟨wb_X11_negated N hEE h, (RTz hz)⟩
theorem oo_X11_negated {N : Nat} {kE : LH → Option Nat → Option (Int32 × LH)} {A : LH} {v0 : Option Nat} {p : Int32 × LH} (h : f_X11_negated N kE A v0 = some p) : isO A v0 11 = true := by unfold f_X11_negated at h; exact (ifN h).1
def b_X11_both_5 (N : Nat) (kE : LH → Option Nat → Option (Int32 × LH)) (k5 : LH → Option Nat → Int32 → Option (Int32 × LH)) (A : LH) (v0 : Option Nat) (v1 : Int32) : Option (Int32 × LH) :=
  if v1 = 0 then some (v1, A) else (f_X11_isWord A v0 (6385252 : Int64)).bind fun p5 => if p5 = 0 then some (v1, A) else (f_X11_next N A v0).bind fun p9 => (f_X11_negated N kE p9 v0).bind fun p12 => (f_X11_put p12.2 v0 (11 : Int32) (0 : Int32)).bind fun p15 => k5 p15 v0 p12.1
set_option maxRecDepth 4000 in
theorem wb_X11_both_5 {g : GG} {n0 z0 : Nat} (N : Nat) {kE : LH → Option Nat → Option (Int32 × LH)} {dR : Nat} (hEE : ∀ {B : LH} {x0 : Option Nat} {q : Int32 × LH}, kE B x0 = some q → Ct g m_X11_any dR [LR x0] B (some (LI q.1)) q.2 ∧ isO B x0 11 = true) {k5 : LH → Option Nat → Int32 → Option (Int32 × LH)} {A : LH} {v0 : Option Nat} {v1 : Int32} {p : Int32 × LH} (hk5 : ∀ {A : LH} {v0 : Option Nat} {v1 : Int32} {p : Int32 × LH}, k5 A v0 v1 = some p → V g m_X11_both (dR + 5) n0 z0 (some (LI p.1)) p.2 A 5 [some (LR v0), some (LI v1)] []) (h : b_X11_both_5 N kE k5 A v0 v1 = some p) : V g m_X11_both (dR + 5) n0 z0 (some (LI p.1)) p.2 A 5 [some (LR v0), some (LI v1)] [] := by
  unfold b_X11_both_5 at h
  refine V.iload_n dX11_both_5 rfl rfl ?_
  refine V.if_eq (tgt := 38) dX11_both_6 (by decide) (fun c4 => ?_) (fun c4 => ?_)
  · have h := (if_pos c4).symm.trans h
    refine V.iload_n dX11_both_38 rfl rfl ?_
    obtain rfl := Option.some.inj h
    exact V.ireturn dX11_both_39
  · have h := (if_neg c4).symm.trans h
    refine V.aload_n dX11_both_9 rfl rfl ?_
    refine V.ldc2 kc_RX11_245 dX11_both_10 ?_
    obtain ⟨p5, h6, h⟩ := bnd h
    have w7 := w_X11_isWord (g := g) h6
    refine V.callVi (args := [LJ (6385252 : Int64)]) (st := []) w7.1 (oo_X11_isWord h6) mk_X11_isWord w7.2 vc_11 ml_RX11_170 im_X11_isWord se_X11_isWord rfl (Nat.le_of_ble_eq_true rfl) (by omega) rfl (Nat.le_of_ble_eq_true rfl) dX11_both_13 ?_
    refine V.if_eq (tgt := 38) dX11_both_16 (by decide) (fun c8 => ?_) (fun c8 => ?_)
    · have h := (if_pos c8).symm.trans h
      refine V.iload_n dX11_both_38 rfl rfl ?_
      obtain rfl := Option.some.inj h
      exact V.ireturn dX11_both_39
    · have h := (if_neg c8).symm.trans h
      refine V.aload_n dX11_both_19 rfl rfl ?_
      obtain ⟨p9, h10, h⟩ := bnd h
      have w11 := w_X11_next (g := g) N h10
      refine V.callVv (args := []) (st := []) w11.1 (oo_X11_next h10) mk_X11_next w11.2 vc_11 ml_RX11_152 im_X11_next se_X11_next rfl (Nat.le_of_ble_eq_true rfl) (by omega) rfl (Nat.le_of_ble_eq_true rfl) dX11_both_20 ?_
      refine V.aload_n dX11_both_23 rfl rfl ?_
      obtain ⟨p12, h13, h⟩ := bnd h
      have w14 := w_X11_negated (g := g) N hEE h13
      refine V.callVi (args := []) (st := []) w14.1 (oo_X11_negated h13) mk_X11_negated w14.2 vc_11 ml_RX11_242 im_X11_negated se_X11_negated rfl (Nat.le_of_ble_eq_true rfl) (by omega) rfl (Nat.le_of_ble_eq_true rfl) dX11_both_24 ?_
      refine V.istore_n (ls' := [some (LR v0), some (LI p12.1)]) dX11_both_27 rfl (by decide) rfl rfl ?_
      refine V.aload_n dX11_both_28 rfl rfl ?_
      refine V.bipush dX11_both_29 kb_11 ?_
      refine V.iconst dX11_both_31 ki_0 ?_
      obtain ⟨p15, h16, h⟩ := bnd h
      have w17 := w_X11_put (g := g) h16
      refine V.callVv (args := [LI (11 : Int32), LI (0 : Int32)]) (st := []) w17.1 (oo_X11_put h16) mk_X11_put w17.2 vc_11 ml_RX11_202 im_X11_put se_X11_put rfl (Nat.le_of_ble_eq_true rfl) (by omega) rfl (Nat.le_of_ble_eq_true rfl) dX11_both_32 ?_
      refine V.goto (tgt := 5) dX11_both_35 (by decide) ?_
      refine V.weak [true, true] ?_
      exact hk5 h
def l_X11_both_5 (N : Nat) (kE : LH → Option Nat → Option (Int32 × LH)) : Nat → LH → Option Nat → Int32 → Option (Int32 × LH)
  | 0, _, _, _ => none
  | n + 1, A, v0, v1 => b_X11_both_5 N kE (l_X11_both_5 N kE n) A v0 v1
theorem wl_X11_both_5 {g : GG} {n0 z0 : Nat} (N : Nat) {kE : LH → Option Nat → Option (Int32 × LH)} {dR : Nat} (hEE : ∀ {B : LH} {x0 : Option Nat} {q : Int32 × LH}, kE B x0 = some q → Ct g m_X11_any dR [LR x0] B (some (LI q.1)) q.2 ∧ isO B x0 11 = true) : ∀ (n : Nat) {A : LH} {v0 : Option Nat} {v1 : Int32} {p : Int32 × LH}, l_X11_both_5 N kE n A v0 v1 = some p → V g m_X11_both (dR + 5) n0 z0 (some (LI p.1)) p.2 A 5 [some (LR v0), some (LI v1)] []
  | 0, _, _, _, _, h => nomatch h
  | n + 1, _, _, _, _, h => wb_X11_both_5 N hEE (wl_X11_both_5 N hEE n) h
def b_X11_both (N : Nat) (kE : LH → Option Nat → Option (Int32 × LH)) (A : LH) (v0 : Option Nat) : Option (Int32 × LH) :=
  (f_X11_negated N kE A v0).bind fun p1 => l_X11_both_5 N kE N p1.2 v0 p1.1
set_option maxRecDepth 4000 in
theorem wb_X11_both {g : GG} {n0 z0 : Nat} (N : Nat) {kE : LH → Option Nat → Option (Int32 × LH)} {dR : Nat} (hEE : ∀ {B : LH} {x0 : Option Nat} {q : Int32 × LH}, kE B x0 = some q → Ct g m_X11_any dR [LR x0] B (some (LI q.1)) q.2 ∧ isO B x0 11 = true) {A : LH} {v0 : Option Nat} {p : Int32 × LH} (h : b_X11_both N kE A v0 = some p) : V g m_X11_both (dR + 5) n0 z0 (some (LI p.1)) p.2 A 0 [some (LR v0)] [] := by
  unfold b_X11_both at h
  refine V.aload_n dX11_both_0 rfl rfl ?_
  obtain ⟨p1, h2, h⟩ := bnd h
  have w3 := w_X11_negated (g := g) N hEE h2
  refine V.callVi (args := []) (st := []) w3.1 (oo_X11_negated h2) mk_X11_negated w3.2 vc_11 ml_RX11_242 im_X11_negated se_X11_negated rfl (Nat.le_of_ble_eq_true rfl) (by omega) rfl (Nat.le_of_ble_eq_true rfl) dX11_both_1 ?_
  refine V.istore_n (ls' := [some (LR v0), some (LI p1.1)]) dX11_both_4 rfl (by decide) rfl rfl ?_
  refine V.weak [true, true] ?_
  exact wl_X11_both_5 N hEE N h
def f_X11_both (N : Nat) (kE : LH → Option Nat → Option (Int32 × LH)) (A : LH) (v0 : Option Nat) : Option (Int32 × LH) := if isO A v0 11 = true then zc (b_X11_both N kE A v0) else none
theorem w_X11_both {g : GG} (N : Nat) {kE : LH → Option Nat → Option (Int32 × LH)} {dR : Nat} (hEE : ∀ {B : LH} {x0 : Option Nat} {q : Int32 × LH}, kE B x0 = some q → Ct g m_X11_any dR [LR x0] B (some (LI q.1)) q.2 ∧ isO B x0 11 = true) {A : LH} {v0 : Option Nat} {p : Int32 × LH} (h : f_X11_both N kE A v0 = some p) : Ct g m_X11_both (dR + 5) [LR v0] A (some (LI p.1)) p.2 := by
  unfold f_X11_both at h
  obtain ⟨ho, h⟩ := ifN h
  obtain ⟨h, hz⟩ := zc_sp h
  exact ⟨wb_X11_both N hEE h, (RTz hz)⟩
theorem oo_X11_both {N : Nat} {kE : LH → Option Nat → Option (Int32 × LH)} {A : LH} {v0 : Option Nat} {p : Int32 × LH} (h : f_X11_both N kE A v0 = some p) : isO A v0 11 = true := by unfold f_X11_both at h; exact (ifN h).1
def b_X11_any_62 (N : Nat) (kE : LH → Option Nat → Option (Int32 × LH)) (A : LH) (v0 : Option Nat) (v1 : Int32) : Option (Int32 × LH) :=
  (gI A v0 11 28).bind fun x12 => (pF A v0 11 28 (LI (x12 - (1 : Int32)))).bind fun A14 => some (v1, A14)
set_option maxRecDepth 4000 in
theorem wb_X11_any_62 {g : GG} {n0 z0 : Nat} (N : Nat) {kE : LH → Option Nat → Option (Int32 × LH)} {dR : Nat} (hEE : ∀ {B : LH} {x0 : Option Nat} {q : Int32 × LH}, kE B x0 = some q → Ct g m_X11_any dR [LR x0] B (some (LI q.1)) q.2 ∧ isO B x0 11 = true) {A : LH} {v0 : Option Nat} {v1 : Int32} {p : Int32 × LH} (h : b_X11_any_62 N kE A v0 v1 = some p) : V g m_X11_any (dR + 6) n0 z0 (some (LI p.1)) p.2 A 62 [some (LR v0), some (LI v1)] [] := by
  unfold b_X11_any_62 at h
  refine V.aload_n dX11_any_62 rfl rfl ?_
  refine V.dup dX11_any_63 rfl ?_
  obtain ⟨x12, h13, h⟩ := bnd h
  refine V.getF (gI_F h13) CF11 (Nat.le_of_ble_eq_true rfl) fl_RX11_234 dX11_any_64 ?_
  refine V.iconst dX11_any_67 ki_1 ?_
  refine V.isub dX11_any_68 ?_
  obtain ⟨A14, h15, h⟩ := bnd h
  refine V.putF h15 rfl rfl rfl CF11 (Nat.le_of_ble_eq_true rfl) fl_RX11_234 dX11_any_69 ?_
  refine V.iload_n dX11_any_72 rfl rfl ?_
  obtain rfl := Option.some.inj h
  exact V.ireturn dX11_any_73
def b_X11_any_29 (N : Nat) (kE : LH → Option Nat → Option (Int32 × LH)) (k29 : LH → Option Nat → Int32 → Option (Int32 × LH)) (A : LH) (v0 : Option Nat) (v1 : Int32) : Option (Int32 × LH) :=
  if v1 = 0 then b_X11_any_62 N kE A v0 v1 else (f_X11_isWord A v0 (28530 : Int64)).bind fun p16 => if p16 = 0 then b_X11_any_62 N kE A v0 v1 else (f_X11_next N A v0).bind fun p20 => (f_X11_both N kE p20 v0).bind fun p23 => (f_X11_put p23.2 v0 (12 : Int32) (0 : Int32)).bind fun p26 => k29 p26 v0 p23.1
set_option maxRecDepth 4000 in
theorem wb_X11_any_29 {g : GG} {n0 z0 : Nat} (N : Nat) {kE : LH → Option Nat → Option (Int32 × LH)} {dR : Nat} (hEE : ∀ {B : LH} {x0 : Option Nat} {q : Int32 × LH}, kE B x0 = some q → Ct g m_X11_any dR [LR x0] B (some (LI q.1)) q.2 ∧ isO B x0 11 = true) {k29 : LH → Option Nat → Int32 → Option (Int32 × LH)} {A : LH} {v0 : Option Nat} {v1 : Int32} {p : Int32 × LH} (hk29 : ∀ {A : LH} {v0 : Option Nat} {v1 : Int32} {p : Int32 × LH}, k29 A v0 v1 = some p → V g m_X11_any (dR + 6) n0 z0 (some (LI p.1)) p.2 A 29 [some (LR v0), some (LI v1)] []) (h : b_X11_any_29 N kE k29 A v0 v1 = some p) : V g m_X11_any (dR + 6) n0 z0 (some (LI p.1)) p.2 A 29 [some (LR v0), some (LI v1)] [] := by
  unfold b_X11_any_29 at h
  refine V.iload_n dX11_any_29 rfl rfl ?_
  refine V.if_eq (tgt := 62) dX11_any_30 (by decide) (fun c11 => ?_) (fun c11 => ?_)
  · have h := (if_pos c11).symm.trans h
    refine V.weak [true, true] ?_
    exact wb_X11_any_62 N hEE h
  · have h := (if_neg c11).symm.trans h
    refine V.aload_n dX11_any_33 rfl rfl ?_
    refine V.ldc2 kc_RX11_240 dX11_any_34 ?_
    obtain ⟨p16, h17, h⟩ := bnd h
    have w18 := w_X11_isWord (g := g) h17
    refine V.callVi (args := [LJ (28530 : Int64)]) (st := []) w18.1 (oo_X11_isWord h17) mk_X11_isWord w18.2 vc_11 ml_RX11_170 im_X11_isWord se_X11_isWord rfl (Nat.le_of_ble_eq_true rfl) (by omega) rfl (Nat.le_of_ble_eq_true rfl) dX11_any_37 ?_
    refine V.if_eq (tgt := 62) dX11_any_40 (by decide) (fun c19 => ?_) (fun c19 => ?_)
    · have h := (if_pos c19).symm.trans h
      refine V.weak [true, true] ?_
      exact wb_X11_any_62 N hEE h
    · have h := (if_neg c19).symm.trans h
      refine V.aload_n dX11_any_43 rfl rfl ?_
      obtain ⟨p20, h21, h⟩ := bnd h
      have w22 := w_X11_next (g := g) N h21
      refine V.callVv (args := []) (st := []) w22.1 (oo_X11_next h21) mk_X11_next w22.2 vc_11 ml_RX11_152 im_X11_next se_X11_next rfl (Nat.le_of_ble_eq_true rfl) (by omega) rfl (Nat.le_of_ble_eq_true rfl) dX11_any_44 ?_
      refine V.aload_n dX11_any_47 rfl rfl ?_
      obtain ⟨p23, h24, h⟩ := bnd h
      have w25 := w_X11_both (g := g) N hEE h24
      refine V.callVi (args := []) (st := []) w25.1 (oo_X11_both h24) mk_X11_both w25.2 vc_11 ml_RX11_237 im_X11_both se_X11_both rfl (Nat.le_of_ble_eq_true rfl) (by omega) rfl (Nat.le_of_ble_eq_true rfl) dX11_any_48 ?_
      refine V.istore_n (ls' := [some (LR v0), some (LI p23.1)]) dX11_any_51 rfl (by decide) rfl rfl ?_
      refine V.aload_n dX11_any_52 rfl rfl ?_
      refine V.bipush dX11_any_53 kb_12 ?_
      refine V.iconst dX11_any_55 ki_0 ?_
      obtain ⟨p26, h27, h⟩ := bnd h
      have w28 := w_X11_put (g := g) h27
      refine V.callVv (args := [LI (12 : Int32), LI (0 : Int32)]) (st := []) w28.1 (oo_X11_put h27) mk_X11_put w28.2 vc_11 ml_RX11_202 im_X11_put se_X11_put rfl (Nat.le_of_ble_eq_true rfl) (by omega) rfl (Nat.le_of_ble_eq_true rfl) dX11_any_56 ?_
      refine V.goto (tgt := 29) dX11_any_59 (by decide) ?_
      refine V.weak [true, true] ?_
      exact hk29 h
def l_X11_any_29 (N : Nat) (kE : LH → Option Nat → Option (Int32 × LH)) : Nat → LH → Option Nat → Int32 → Option (Int32 × LH)
  | 0, _, _, _ => none
  | n + 1, A, v0, v1 => b_X11_any_29 N kE (l_X11_any_29 N kE n) A v0 v1
theorem wl_X11_any_29 {g : GG} {n0 z0 : Nat} (N : Nat) {kE : LH → Option Nat → Option (Int32 × LH)} {dR : Nat} (hEE : ∀ {B : LH} {x0 : Option Nat} {q : Int32 × LH}, kE B x0 = some q → Ct g m_X11_any dR [LR x0] B (some (LI q.1)) q.2 ∧ isO B x0 11 = true) : ∀ (n : Nat) {A : LH} {v0 : Option Nat} {v1 : Int32} {p : Int32 × LH}, l_X11_any_29 N kE n A v0 v1 = some p → V g m_X11_any (dR + 6) n0 z0 (some (LI p.1)) p.2 A 29 [some (LR v0), some (LI v1)] []
  | 0, _, _, _, _, h => nomatch h
  | n + 1, _, _, _, _, h => wb_X11_any_29 N hEE (wl_X11_any_29 N hEE n) h
def b_X11_any (N : Nat) (kE : LH → Option Nat → Option (Int32 × LH)) (A : LH) (v0 : Option Nat) : Option (Int32 × LH) :=
  (gI A v0 11 28).bind fun x1 => if x1 = (6 : Int32) then (f_X11_wrong A v0).bind fun p29 => some (p29.1, p29.2) else (gI A v0 11 28).bind fun x4 => (pF A v0 11 28 (LI (x4 + (1 : Int32)))).bind fun A6 => (f_X11_both N kE A6 v0).bind fun p8 => l_X11_any_29 N kE N p8.2 v0 p8.1
set_option maxRecDepth 4000 in
theorem wb_X11_any {g : GG} {n0 z0 : Nat} (N : Nat) {kE : LH → Option Nat → Option (Int32 × LH)} {dR : Nat} (hEE : ∀ {B : LH} {x0 : Option Nat} {q : Int32 × LH}, kE B x0 = some q → Ct g m_X11_any dR [LR x0] B (some (LI q.1)) q.2 ∧ isO B x0 11 = true) {A : LH} {v0 : Option Nat} {p : Int32 × LH} (h : b_X11_any N kE A v0 = some p) : V g m_X11_any (dR + 6) n0 z0 (some (LI p.1)) p.2 A 0 [some (LR v0)] [] := by
  unfold b_X11_any at h
  refine V.aload_n dX11_any_0 rfl rfl ?_
  obtain ⟨x1, h2, h⟩ := bnd h
  refine V.getF (gI_F h2) CF11 (Nat.le_of_ble_eq_true rfl) fl_RX11_234 dX11_any_1 ?_
  refine V.bipush dX11_any_4 kb_6 ?_
  refine V.icmp_ne (tgt := 14) dX11_any_6 (by decide) (fun c3 => ?_) (fun c3 => ?_)
  · have h := (if_neg c3).symm.trans h
    refine V.aload_n dX11_any_14 rfl rfl ?_
    refine V.dup dX11_any_15 rfl ?_
    obtain ⟨x4, h5, h⟩ := bnd h
    refine V.getF (gI_F h5) CF11 (Nat.le_of_ble_eq_true rfl) fl_RX11_234 dX11_any_16 ?_
    refine V.iconst dX11_any_19 ki_1 ?_
    refine V.iadd dX11_any_20 ?_
    obtain ⟨A6, h7, h⟩ := bnd h
    refine V.putF h7 rfl rfl rfl CF11 (Nat.le_of_ble_eq_true rfl) fl_RX11_234 dX11_any_21 ?_
    refine V.aload_n dX11_any_24 rfl rfl ?_
    obtain ⟨p8, h9, h⟩ := bnd h
    have w10 := w_X11_both (g := g) N hEE h9
    refine V.callVi (args := []) (st := []) w10.1 (oo_X11_both h9) mk_X11_both w10.2 vc_11 ml_RX11_237 im_X11_both se_X11_both rfl (Nat.le_of_ble_eq_true rfl) (by omega) rfl (Nat.le_of_ble_eq_true rfl) dX11_any_25 ?_
    refine V.istore_n (ls' := [some (LR v0), some (LI p8.1)]) dX11_any_28 rfl (by decide) rfl rfl ?_
    refine V.weak [true, true] ?_
    exact wl_X11_any_29 N hEE N h
  · have h := (if_pos c3).symm.trans h
    refine V.aload_n dX11_any_9 rfl rfl ?_
    obtain ⟨p29, h30, h⟩ := bnd h
    have w31 := w_X11_wrong (g := g) h30
    refine V.callVi (args := []) (st := []) w31.1 (oo_X11_wrong h30) mk_X11_wrong w31.2 vc_11 ml_RX11_148 im_X11_wrong se_X11_wrong rfl (Nat.le_of_ble_eq_true rfl) (by omega) rfl (Nat.le_of_ble_eq_true rfl) dX11_any_10 ?_
    obtain rfl := Option.some.inj h
    exact V.ireturn dX11_any_13
def f_X11_any (N : Nat) (kE : LH → Option Nat → Option (Int32 × LH)) (A : LH) (v0 : Option Nat) : Option (Int32 × LH) := if isO A v0 11 = true then zc (b_X11_any N kE A v0) else none
theorem w_X11_any {g : GG} (N : Nat) {kE : LH → Option Nat → Option (Int32 × LH)} {dR : Nat} (hEE : ∀ {B : LH} {x0 : Option Nat} {q : Int32 × LH}, kE B x0 = some q → Ct g m_X11_any dR [LR x0] B (some (LI q.1)) q.2 ∧ isO B x0 11 = true) {A : LH} {v0 : Option Nat} {p : Int32 × LH} (h : f_X11_any N kE A v0 = some p) : Ct g m_X11_any (dR + 6) [LR v0] A (some (LI p.1)) p.2 := by
  unfold f_X11_any at h
  obtain ⟨ho, h⟩ := ifN h
  obtain ⟨h, hz⟩ := zc_sp h
  exact ⟨wb_X11_any N hEE h, (RTz hz)⟩
theorem oo_X11_any {N : Nat} {kE : LH → Option Nat → Option (Int32 × LH)} {A : LH} {v0 : Option Nat} {p : Int32 × LH} (h : f_X11_any N kE A v0 = some p) : isO A v0 11 = true := by unfold f_X11_any at h; exact (ifN h).1
def F_X11_any (N : Nat) : Nat → LH → Option Nat → Option (Int32 × LH)
  | 0, _, _ => none
  | n + 1, A, v0 => f_X11_any N (F_X11_any N n) A v0
theorem w_F_X11_any {g : GG} (N : Nat) : ∀ (n : Nat) {A : LH} {v0 : Option Nat} {p : Int32 × LH}, F_X11_any N n A v0 = some p → Ct g m_X11_any (6 * n) [LR v0] A (some (LI p.1)) p.2 ∧ isO A v0 11 = true
  | 0, _, _, _, h => nomatch h
  | n + 1, _, _, _, h => ⟨w_X11_any N (w_F_X11_any N n) h, oo_X11_any h⟩
def b_X11_what_118 (N : Nat) (A : LH) (v0 : Option Nat) (v1 : Int32) (s0 : Int32) (s1 : Option Nat) : Option (Int32 × LH) :=
  (f_X11_number N A s1 s0).bind fun p32 => (gR p32.2 v0 11 32).bind fun x35 => (gI p32.2 v0 11 35).bind fun x37 => (sI p32.2 x35 0 (v1 + (5 : Int32)) x37).bind fun A39 => some (p32.1, A39)
set_option maxRecDepth 4000 in
theorem wb_X11_what_118 {g : GG} {n0 z0 : Nat} (N : Nat) {A : LH} {v0 : Option Nat} {v1 : Int32} {s0 : Int32} {s1 : Option Nat} {p : Int32 × LH} (h : b_X11_what_118 N A v0 v1 s0 s1 = some p) : V g m_X11_what 3 n0 z0 (some (LI p.1)) p.2 A 118 [some (LR v0), some (LI v1)] [LI s0, LR s1] := by
  unfold b_X11_what_118 at h
  obtain ⟨p32, h33, h⟩ := bnd h
  have w34 := w_X11_number (g := g) N h33
  refine V.callVi (args := [LI s0]) (st := []) w34.1 (oo_X11_number h33) mk_X11_number w34.2 vc_11 ml_RX11_215 im_X11_number se_X11_number rfl (Nat.le_of_ble_eq_true rfl) (by decide) rfl (Nat.le_of_ble_eq_true rfl) dX11_what_118 ?_
  refine V.istore_n (ls' := [some (LR v0), some (LI v1), none, some (LI p32.1)]) dX11_what_121 rfl (by decide) rfl rfl ?_
  refine V.aload_n dX11_what_122 rfl rfl ?_
  obtain ⟨x35, h36, h⟩ := bnd h
  refine V.getF (gR_F h36) CF11 (Nat.le_of_ble_eq_true rfl) fl_RX11_63 dX11_what_123 ?_
  refine V.iload_n dX11_what_126 rfl rfl ?_
  refine V.iconst dX11_what_127 ki_5 ?_
  refine V.iadd dX11_what_128 ?_
  refine V.aload_n dX11_what_129 rfl rfl ?_
  obtain ⟨x37, h38, h⟩ := bnd h
  refine V.getF (gI_F h38) CF11 (Nat.le_of_ble_eq_true rfl) fl_RX11_155 dX11_what_130 ?_
  obtain ⟨A39, h40, h⟩ := bnd h
  refine V.iast h40 dX11_what_133 ?_
  refine V.iload_n dX11_what_134 rfl rfl ?_
  obtain rfl := Option.some.inj h
  exact V.ireturn dX11_what_135
def b_X11_what_57 (N : Nat) (A : LH) (v0 : Option Nat) (v1 : Int32) (s0 : Int32) : Option (Int32 × LH) :=
  if s0 = (-1 : Int32) then (f_X11_wrong A v0).bind fun p41 => some (p41.1, p41.2) else (f_X11_next N A v0).bind fun p18 => (gR p18 v0 11 32).bind fun x21 => (sI p18 x21 0 (v1 + (4 : Int32)) s0).bind fun A23 => (gR A23 v0 11 32).bind fun x25 => (sI A23 x25 0 (v1 + (5 : Int32)) (0 : Int32)).bind fun A27 => if s0 = 0 then some ((1 : Int32), A27) else if s0 = (1 : Int32) then b_X11_what_118 N A27 v0 v1 (7 : Int32) v0 else if s0 = (2 : Int32) then b_X11_what_118 N A27 v0 v1 (15 : Int32) v0 else b_X11_what_118 N A27 v0 v1 (5 : Int32) v0
set_option maxRecDepth 4000 in
theorem wb_X11_what_57 {g : GG} {n0 z0 : Nat} (N : Nat) {A : LH} {v0 : Option Nat} {v1 : Int32} {s0 : Int32} {p : Int32 × LH} (h : b_X11_what_57 N A v0 v1 s0 = some p) : V g m_X11_what 3 n0 z0 (some (LI p.1)) p.2 A 57 [some (LR v0), some (LI v1)] [LI s0] := by
  unfold b_X11_what_57 at h
  refine V.istore_n (ls' := [some (LR v0), some (LI v1), some (LI s0)]) dX11_what_57 rfl (by decide) rfl rfl ?_
  refine V.iload_n dX11_what_58 rfl rfl ?_
  refine V.iconst dX11_what_59 ki_m1 ?_
  refine V.icmp_ne (tgt := 68) dX11_what_60 (by decide) (fun c17 => ?_) (fun c17 => ?_)
  · have h := (if_neg c17).symm.trans h
    refine V.aload_n dX11_what_68 rfl rfl ?_
    obtain ⟨p18, h19, h⟩ := bnd h
    have w20 := w_X11_next (g := g) N h19
    refine V.callVv (args := []) (st := []) w20.1 (oo_X11_next h19) mk_X11_next w20.2 vc_11 ml_RX11_152 im_X11_next se_X11_next rfl (Nat.le_of_ble_eq_true rfl) (by decide) rfl (Nat.le_of_ble_eq_true rfl) dX11_what_69 ?_
    refine V.aload_n dX11_what_72 rfl rfl ?_
    obtain ⟨x21, h22, h⟩ := bnd h
    refine V.getF (gR_F h22) CF11 (Nat.le_of_ble_eq_true rfl) fl_RX11_63 dX11_what_73 ?_
    refine V.iload_n dX11_what_76 rfl rfl ?_
    refine V.iconst dX11_what_77 ki_4 ?_
    refine V.iadd dX11_what_78 ?_
    refine V.iload_n dX11_what_79 rfl rfl ?_
    obtain ⟨A23, h24, h⟩ := bnd h
    refine V.iast h24 dX11_what_80 ?_
    refine V.aload_n dX11_what_81 rfl rfl ?_
    obtain ⟨x25, h26, h⟩ := bnd h
    refine V.getF (gR_F h26) CF11 (Nat.le_of_ble_eq_true rfl) fl_RX11_63 dX11_what_82 ?_
    refine V.iload_n dX11_what_85 rfl rfl ?_
    refine V.iconst dX11_what_86 ki_5 ?_
    refine V.iadd dX11_what_87 ?_
    refine V.iconst dX11_what_88 ki_0 ?_
    obtain ⟨A27, h28, h⟩ := bnd h
    refine V.iast h28 dX11_what_89 ?_
    refine V.iload_n dX11_what_90 rfl rfl ?_
    refine V.if_ne (tgt := 96) dX11_what_91 (by decide) (fun c29 => ?_) (fun c29 => ?_)
    · have h := (if_neg c29).symm.trans h
      refine V.aload_n dX11_what_96 rfl rfl ?_
      refine V.iload_n dX11_what_97 rfl rfl ?_
      refine V.iconst dX11_what_98 ki_1 ?_
      refine V.icmp_ne (tgt := 107) dX11_what_99 (by decide) (fun c30 => ?_) (fun c30 => ?_)
      · have h := (if_neg c30).symm.trans h
        refine V.iload_n dX11_what_107 rfl rfl ?_
        refine V.iconst dX11_what_108 ki_2 ?_
        refine V.icmp_ne (tgt := 117) dX11_what_109 (by decide) (fun c31 => ?_) (fun c31 => ?_)
        · have h := (if_neg c31).symm.trans h
          refine V.iconst dX11_what_117 ki_5 ?_
          refine V.weak [true, true] ?_
          exact wb_X11_what_118 N h
        · have h := (if_pos c31).symm.trans h
          refine V.bipush dX11_what_112 kb_15 ?_
          refine V.goto (tgt := 118) dX11_what_114 (by decide) ?_
          refine V.weak [true, true] ?_
          exact wb_X11_what_118 N h
      · have h := (if_pos c30).symm.trans h
        refine V.bipush dX11_what_102 kb_7 ?_
        refine V.goto (tgt := 118) dX11_what_104 (by decide) ?_
        refine V.weak [true, true] ?_
        exact wb_X11_what_118 N h
    · have h := (if_pos c29).symm.trans h
      refine V.iconst dX11_what_94 ki_1 ?_
      obtain rfl := Option.some.inj h
      exact V.ireturn dX11_what_95
  · have h := (if_pos c17).symm.trans h
    refine V.aload_n dX11_what_63 rfl rfl ?_
    obtain ⟨p41, h42, h⟩ := bnd h
    have w43 := w_X11_wrong (g := g) h42
    refine V.callVi (args := []) (st := []) w43.1 (oo_X11_wrong h42) mk_X11_wrong w43.2 vc_11 ml_RX11_148 im_X11_wrong se_X11_wrong rfl (Nat.le_of_ble_eq_true rfl) (by decide) rfl (Nat.le_of_ble_eq_true rfl) dX11_what_64 ?_
    obtain rfl := Option.some.inj h
    exact V.ireturn dX11_what_67
def b_X11_what (N : Nat) (A : LH) (v0 : Option Nat) (v1 : Int32) : Option (Int32 × LH) :=
  (f_X11_isWord A v0 (6384748 : Int64)).bind fun p1 => if p1 = 0 then (f_X11_isWord A v0 (1802071652 : Int64)).bind fun p5 => if p5 = 0 then (f_X11_isWord A v0 (499967946343 : Int64)).bind fun p9 => if p9 = 0 then (f_X11_isWord A v0 (465558725996 : Int64)).bind fun p13 => if p13 = 0 then b_X11_what_57 N A v0 v1 (-1 : Int32) else b_X11_what_57 N A v0 v1 (3 : Int32) else b_X11_what_57 N A v0 v1 (2 : Int32) else b_X11_what_57 N A v0 v1 (1 : Int32) else b_X11_what_57 N A v0 v1 (0 : Int32)
set_option maxRecDepth 4000 in
theorem wb_X11_what {g : GG} {n0 z0 : Nat} (N : Nat) {A : LH} {v0 : Option Nat} {v1 : Int32} {p : Int32 × LH} (h : b_X11_what N A v0 v1 = some p) : V g m_X11_what 3 n0 z0 (some (LI p.1)) p.2 A 0 [some (LR v0), some (LI v1)] [] := by
  unfold b_X11_what at h
  refine V.aload_n dX11_what_0 rfl rfl ?_
  refine V.ldc2 kc_RX11_205 dX11_what_1 ?_
  obtain ⟨p1, h2, h⟩ := bnd h
  have w3 := w_X11_isWord (g := g) h2
  refine V.callVi (args := [LJ (6384748 : Int64)]) (st := []) w3.1 (oo_X11_isWord h2) mk_X11_isWord w3.2 vc_11 ml_RX11_170 im_X11_isWord se_X11_isWord rfl (Nat.le_of_ble_eq_true rfl) (by decide) rfl (Nat.le_of_ble_eq_true rfl) dX11_what_4 ?_
  refine V.if_eq (tgt := 14) dX11_what_7 (by decide) (fun c4 => ?_) (fun c4 => ?_)
  · have h := (if_pos c4).symm.trans h
    refine V.aload_n dX11_what_14 rfl rfl ?_
    refine V.ldc2 kc_RX11_228 dX11_what_15 ?_
    obtain ⟨p5, h6, h⟩ := bnd h
    have w7 := w_X11_isWord (g := g) h6
    refine V.callVi (args := [LJ (1802071652 : Int64)]) (st := []) w7.1 (oo_X11_isWord h6) mk_X11_isWord w7.2 vc_11 ml_RX11_170 im_X11_isWord se_X11_isWord rfl (Nat.le_of_ble_eq_true rfl) (by decide) rfl (Nat.le_of_ble_eq_true rfl) dX11_what_18 ?_
    refine V.if_eq (tgt := 28) dX11_what_21 (by decide) (fun c8 => ?_) (fun c8 => ?_)
    · have h := (if_pos c8).symm.trans h
      refine V.aload_n dX11_what_28 rfl rfl ?_
      refine V.ldc2 kc_RX11_230 dX11_what_29 ?_
      obtain ⟨p9, h10, h⟩ := bnd h
      have w11 := w_X11_isWord (g := g) h10
      refine V.callVi (args := [LJ (499967946343 : Int64)]) (st := []) w11.1 (oo_X11_isWord h10) mk_X11_isWord w11.2 vc_11 ml_RX11_170 im_X11_isWord se_X11_isWord rfl (Nat.le_of_ble_eq_true rfl) (by decide) rfl (Nat.le_of_ble_eq_true rfl) dX11_what_32 ?_
      refine V.if_eq (tgt := 42) dX11_what_35 (by decide) (fun c12 => ?_) (fun c12 => ?_)
      · have h := (if_pos c12).symm.trans h
        refine V.aload_n dX11_what_42 rfl rfl ?_
        refine V.ldc2 kc_RX11_232 dX11_what_43 ?_
        obtain ⟨p13, h14, h⟩ := bnd h
        have w15 := w_X11_isWord (g := g) h14
        refine V.callVi (args := [LJ (465558725996 : Int64)]) (st := []) w15.1 (oo_X11_isWord h14) mk_X11_isWord w15.2 vc_11 ml_RX11_170 im_X11_isWord se_X11_isWord rfl (Nat.le_of_ble_eq_true rfl) (by decide) rfl (Nat.le_of_ble_eq_true rfl) dX11_what_46 ?_
        refine V.if_eq (tgt := 56) dX11_what_49 (by decide) (fun c16 => ?_) (fun c16 => ?_)
        · have h := (if_pos c16).symm.trans h
          refine V.iconst dX11_what_56 ki_m1 ?_
          refine V.weak [true, true] ?_
          exact wb_X11_what_57 N h
        · have h := (if_neg c16).symm.trans h
          refine V.iconst dX11_what_52 ki_3 ?_
          refine V.goto (tgt := 57) dX11_what_53 (by decide) ?_
          refine V.weak [true, true] ?_
          exact wb_X11_what_57 N h
      · have h := (if_neg c12).symm.trans h
        refine V.iconst dX11_what_38 ki_2 ?_
        refine V.goto (tgt := 57) dX11_what_39 (by decide) ?_
        refine V.weak [true, true] ?_
        exact wb_X11_what_57 N h
    · have h := (if_neg c8).symm.trans h
      refine V.iconst dX11_what_24 ki_1 ?_
      refine V.goto (tgt := 57) dX11_what_25 (by decide) ?_
      refine V.weak [true, true] ?_
      exact wb_X11_what_57 N h
  · have h := (if_neg c4).symm.trans h
    refine V.iconst dX11_what_10 ki_0 ?_
    refine V.goto (tgt := 57) dX11_what_11 (by decide) ?_
    refine V.weak [true, true] ?_
    exact wb_X11_what_57 N h
def f_X11_what (N : Nat) (A : LH) (v0 : Option Nat) (v1 : Int32) : Option (Int32 × LH) := if isO A v0 11 = true then zc (b_X11_what N A v0 v1) else none
theorem w_X11_what {g : GG} (N : Nat) {A : LH} {v0 : Option Nat} {v1 : Int32} {p : Int32 × LH} (h : f_X11_what N A v0 v1 = some p) : Ct g m_X11_what 3 [LR v0, LI v1] A (some (LI p.1)) p.2 := by
  unfold f_X11_what at h
  obtain ⟨ho, h⟩ := ifN h
  obtain ⟨h, hz⟩ := zc_sp h
  exact ⟨wb_X11_what N h, (RTz hz)⟩
theorem oo_X11_what {N : Nat} {A : LH} {v0 : Option Nat} {v1 : Int32} {p : Int32 × LH} (h : f_X11_what N A v0 v1 = some p) : isO A v0 11 = true := by unfold f_X11_what at h; exact (ifN h).1
def b_X11_who_137 (N : Nat) (A : LH) (v0 : Option Nat) (v1 : Int32) (s0 : Int32) (s1 : Option Nat) : Option (Int32 × LH) :=
  (f_X11_number N A s1 s0).bind fun p37 => (gR p37.2 v0 11 32).bind fun x40 => (gI p37.2 v0 11 35).bind fun x42 => (sI p37.2 x40 0 (v1 + (2 : Int32)) x42).bind fun A44 => some (p37.1, A44)
set_option maxRecDepth 4000 in
theorem wb_X11_who_137 {g : GG} {n0 z0 : Nat} (N : Nat) {A : LH} {v0 : Option Nat} {v1 : Int32} {s0 : Int32} {s1 : Option Nat} {p : Int32 × LH} (h : b_X11_who_137 N A v0 v1 s0 s1 = some p) : V g m_X11_who 3 n0 z0 (some (LI p.1)) p.2 A 137 [some (LR v0), some (LI v1)] [LI s0, LR s1] := by
  unfold b_X11_who_137 at h
  obtain ⟨p37, h38, h⟩ := bnd h
  have w39 := w_X11_number (g := g) N h38
  refine V.callVi (args := [LI s0]) (st := []) w39.1 (oo_X11_number h38) mk_X11_number w39.2 vc_11 ml_RX11_215 im_X11_number se_X11_number rfl (Nat.le_of_ble_eq_true rfl) (by decide) rfl (Nat.le_of_ble_eq_true rfl) dX11_who_137 ?_
  refine V.istore_n (ls' := [some (LR v0), some (LI v1), none, some (LI p37.1)]) dX11_who_140 rfl (by decide) rfl rfl ?_
  refine V.aload_n dX11_who_141 rfl rfl ?_
  obtain ⟨x40, h41, h⟩ := bnd h
  refine V.getF (gR_F h41) CF11 (Nat.le_of_ble_eq_true rfl) fl_RX11_63 dX11_who_142 ?_
  refine V.iload_n dX11_who_145 rfl rfl ?_
  refine V.iconst dX11_who_146 ki_2 ?_
  refine V.iadd dX11_who_147 ?_
  refine V.aload_n dX11_who_148 rfl rfl ?_
  obtain ⟨x42, h43, h⟩ := bnd h
  refine V.getF (gI_F h43) CF11 (Nat.le_of_ble_eq_true rfl) fl_RX11_155 dX11_who_149 ?_
  obtain ⟨A44, h45, h⟩ := bnd h
  refine V.iast h45 dX11_who_152 ?_
  refine V.iload_n dX11_who_153 rfl rfl ?_
  obtain rfl := Option.some.inj h
  exact V.ireturn dX11_who_154
def b_X11_who_71 (N : Nat) (A : LH) (v0 : Option Nat) (v1 : Int32) (s0 : Int32) : Option (Int32 × LH) :=
  if s0 = (-1 : Int32) then (f_X11_wrong A v0).bind fun p46 => some (p46.1, p46.2) else (f_X11_next N A v0).bind fun p22 => (gR p22 v0 11 32).bind fun x25 => (sI p22 x25 0 (v1 + (1 : Int32)) s0).bind fun A27 => (gR A27 v0 11 32).bind fun x29 => (sI A27 x29 0 (v1 + (2 : Int32)) (0 : Int32)).bind fun A31 => if s0 = 0 then some ((1 : Int32), A31) else if s0 = (3 : Int32) then some ((1 : Int32), A31) else if s0 = (1 : Int32) then b_X11_who_137 N A31 v0 v1 (7 : Int32) v0 else if s0 = (2 : Int32) then b_X11_who_137 N A31 v0 v1 (15 : Int32) v0 else b_X11_who_137 N A31 v0 v1 (5 : Int32) v0
set_option maxRecDepth 4000 in
theorem wb_X11_who_71 {g : GG} {n0 z0 : Nat} (N : Nat) {A : LH} {v0 : Option Nat} {v1 : Int32} {s0 : Int32} {p : Int32 × LH} (h : b_X11_who_71 N A v0 v1 s0 = some p) : V g m_X11_who 3 n0 z0 (some (LI p.1)) p.2 A 71 [some (LR v0), some (LI v1)] [LI s0] := by
  unfold b_X11_who_71 at h
  refine V.istore_n (ls' := [some (LR v0), some (LI v1), some (LI s0)]) dX11_who_71 rfl (by decide) rfl rfl ?_
  refine V.iload_n dX11_who_72 rfl rfl ?_
  refine V.iconst dX11_who_73 ki_m1 ?_
  refine V.icmp_ne (tgt := 82) dX11_who_74 (by decide) (fun c21 => ?_) (fun c21 => ?_)
  · have h := (if_neg c21).symm.trans h
    refine V.aload_n dX11_who_82 rfl rfl ?_
    obtain ⟨p22, h23, h⟩ := bnd h
    have w24 := w_X11_next (g := g) N h23
    refine V.callVv (args := []) (st := []) w24.1 (oo_X11_next h23) mk_X11_next w24.2 vc_11 ml_RX11_152 im_X11_next se_X11_next rfl (Nat.le_of_ble_eq_true rfl) (by decide) rfl (Nat.le_of_ble_eq_true rfl) dX11_who_83 ?_
    refine V.aload_n dX11_who_86 rfl rfl ?_
    obtain ⟨x25, h26, h⟩ := bnd h
    refine V.getF (gR_F h26) CF11 (Nat.le_of_ble_eq_true rfl) fl_RX11_63 dX11_who_87 ?_
    refine V.iload_n dX11_who_90 rfl rfl ?_
    refine V.iconst dX11_who_91 ki_1 ?_
    refine V.iadd dX11_who_92 ?_
    refine V.iload_n dX11_who_93 rfl rfl ?_
    obtain ⟨A27, h28, h⟩ := bnd h
    refine V.iast h28 dX11_who_94 ?_
    refine V.aload_n dX11_who_95 rfl rfl ?_
    obtain ⟨x29, h30, h⟩ := bnd h
    refine V.getF (gR_F h30) CF11 (Nat.le_of_ble_eq_true rfl) fl_RX11_63 dX11_who_96 ?_
    refine V.iload_n dX11_who_99 rfl rfl ?_
    refine V.iconst dX11_who_100 ki_2 ?_
    refine V.iadd dX11_who_101 ?_
    refine V.iconst dX11_who_102 ki_0 ?_
    obtain ⟨A31, h32, h⟩ := bnd h
    refine V.iast h32 dX11_who_103 ?_
    refine V.iload_n dX11_who_104 rfl rfl ?_
    refine V.if_eq (tgt := 113) dX11_who_105 (by decide) (fun c33 => ?_) (fun c33 => ?_)
    · have h := (if_pos c33).symm.trans h
      refine V.iconst dX11_who_113 ki_1 ?_
      obtain rfl := Option.some.inj h
      exact V.ireturn dX11_who_114
    · have h := (if_neg c33).symm.trans h
      refine V.iload_n dX11_who_108 rfl rfl ?_
      refine V.iconst dX11_who_109 ki_3 ?_
      refine V.icmp_ne (tgt := 115) dX11_who_110 (by decide) (fun c34 => ?_) (fun c34 => ?_)
      · have h := (if_neg c34).symm.trans h
        refine V.aload_n dX11_who_115 rfl rfl ?_
        refine V.iload_n dX11_who_116 rfl rfl ?_
        refine V.iconst dX11_who_117 ki_1 ?_
        refine V.icmp_ne (tgt := 126) dX11_who_118 (by decide) (fun c35 => ?_) (fun c35 => ?_)
        · have h := (if_neg c35).symm.trans h
          refine V.iload_n dX11_who_126 rfl rfl ?_
          refine V.iconst dX11_who_127 ki_2 ?_
          refine V.icmp_ne (tgt := 136) dX11_who_128 (by decide) (fun c36 => ?_) (fun c36 => ?_)
          · have h := (if_neg c36).symm.trans h
            refine V.iconst dX11_who_136 ki_5 ?_
            refine V.weak [true, true] ?_
            exact wb_X11_who_137 N h
          · have h := (if_pos c36).symm.trans h
            refine V.bipush dX11_who_131 kb_15 ?_
            refine V.goto (tgt := 137) dX11_who_133 (by decide) ?_
            refine V.weak [true, true] ?_
            exact wb_X11_who_137 N h
        · have h := (if_pos c35).symm.trans h
          refine V.bipush dX11_who_121 kb_7 ?_
          refine V.goto (tgt := 137) dX11_who_123 (by decide) ?_
          refine V.weak [true, true] ?_
          exact wb_X11_who_137 N h
      · have h := (if_pos c34).symm.trans h
        refine V.iconst dX11_who_113 ki_1 ?_
        obtain rfl := Option.some.inj h
        exact V.ireturn dX11_who_114
  · have h := (if_pos c21).symm.trans h
    refine V.aload_n dX11_who_77 rfl rfl ?_
    obtain ⟨p46, h47, h⟩ := bnd h
    have w48 := w_X11_wrong (g := g) h47
    refine V.callVi (args := []) (st := []) w48.1 (oo_X11_wrong h47) mk_X11_wrong w48.2 vc_11 ml_RX11_148 im_X11_wrong se_X11_wrong rfl (Nat.le_of_ble_eq_true rfl) (by decide) rfl (Nat.le_of_ble_eq_true rfl) dX11_who_78 ?_
    obtain rfl := Option.some.inj h
    exact V.ireturn dX11_who_81
def b_X11_who (N : Nat) (A : LH) (v0 : Option Nat) (v1 : Int32) : Option (Int32 × LH) :=
  (f_X11_isWord A v0 (6384748 : Int64)).bind fun p1 => if p1 = 0 then (f_X11_isWord A v0 (444301538672 : Int64)).bind fun p5 => if p5 = 0 then (f_X11_isWord A v0 (7302757 : Int64)).bind fun p9 => if p9 = 0 then (f_X11_isWord A v0 (478745093490 : Int64)).bind fun p13 => if p13 = 0 then (f_X11_isWord A v0 (427020345714 : Int64)).bind fun p17 => if p17 = 0 then b_X11_who_71 N A v0 v1 (-1 : Int32) else b_X11_who_71 N A v0 v1 (4 : Int32) else b_X11_who_71 N A v0 v1 (3 : Int32) else b_X11_who_71 N A v0 v1 (2 : Int32) else b_X11_who_71 N A v0 v1 (1 : Int32) else b_X11_who_71 N A v0 v1 (0 : Int32)
set_option maxRecDepth 4000 in
theorem wb_X11_who {g : GG} {n0 z0 : Nat} (N : Nat) {A : LH} {v0 : Option Nat} {v1 : Int32} {p : Int32 × LH} (h : b_X11_who N A v0 v1 = some p) : V g m_X11_who 3 n0 z0 (some (LI p.1)) p.2 A 0 [some (LR v0), some (LI v1)] [] := by
  unfold b_X11_who at h
  refine V.aload_n dX11_who_0 rfl rfl ?_
  refine V.ldc2 kc_RX11_205 dX11_who_1 ?_
  obtain ⟨p1, h2, h⟩ := bnd h
  have w3 := w_X11_isWord (g := g) h2
  refine V.callVi (args := [LJ (6384748 : Int64)]) (st := []) w3.1 (oo_X11_isWord h2) mk_X11_isWord w3.2 vc_11 ml_RX11_170 im_X11_isWord se_X11_isWord rfl (Nat.le_of_ble_eq_true rfl) (by decide) rfl (Nat.le_of_ble_eq_true rfl) dX11_who_4 ?_
  refine V.if_eq (tgt := 14) dX11_who_7 (by decide) (fun c4 => ?_) (fun c4 => ?_)
  · have h := (if_pos c4).symm.trans h
    refine V.aload_n dX11_who_14 rfl rfl ?_
    refine V.ldc2 kc_RX11_207 dX11_who_15 ?_
    obtain ⟨p5, h6, h⟩ := bnd h
    have w7 := w_X11_isWord (g := g) h6
    refine V.callVi (args := [LJ (444301538672 : Int64)]) (st := []) w7.1 (oo_X11_isWord h6) mk_X11_isWord w7.2 vc_11 ml_RX11_170 im_X11_isWord se_X11_isWord rfl (Nat.le_of_ble_eq_true rfl) (by decide) rfl (Nat.le_of_ble_eq_true rfl) dX11_who_18 ?_
    refine V.if_eq (tgt := 28) dX11_who_21 (by decide) (fun c8 => ?_) (fun c8 => ?_)
    · have h := (if_pos c8).symm.trans h
      refine V.aload_n dX11_who_28 rfl rfl ?_
      refine V.ldc2 kc_RX11_209 dX11_who_29 ?_
      obtain ⟨p9, h10, h⟩ := bnd h
      have w11 := w_X11_isWord (g := g) h10
      refine V.callVi (args := [LJ (7302757 : Int64)]) (st := []) w11.1 (oo_X11_isWord h10) mk_X11_isWord w11.2 vc_11 ml_RX11_170 im_X11_isWord se_X11_isWord rfl (Nat.le_of_ble_eq_true rfl) (by decide) rfl (Nat.le_of_ble_eq_true rfl) dX11_who_32 ?_
      refine V.if_eq (tgt := 42) dX11_who_35 (by decide) (fun c12 => ?_) (fun c12 => ?_)
      · have h := (if_pos c12).symm.trans h
        refine V.aload_n dX11_who_42 rfl rfl ?_
        refine V.ldc2 kc_RX11_211 dX11_who_43 ?_
        obtain ⟨p13, h14, h⟩ := bnd h
        have w15 := w_X11_isWord (g := g) h14
        refine V.callVi (args := [LJ (478745093490 : Int64)]) (st := []) w15.1 (oo_X11_isWord h14) mk_X11_isWord w15.2 vc_11 ml_RX11_170 im_X11_isWord se_X11_isWord rfl (Nat.le_of_ble_eq_true rfl) (by decide) rfl (Nat.le_of_ble_eq_true rfl) dX11_who_46 ?_
        refine V.if_eq (tgt := 56) dX11_who_49 (by decide) (fun c16 => ?_) (fun c16 => ?_)
        · have h := (if_pos c16).symm.trans h
          refine V.aload_n dX11_who_56 rfl rfl ?_
          refine V.ldc2 kc_RX11_213 dX11_who_57 ?_
          obtain ⟨p17, h18, h⟩ := bnd h
          have w19 := w_X11_isWord (g := g) h18
          refine V.callVi (args := [LJ (427020345714 : Int64)]) (st := []) w19.1 (oo_X11_isWord h18) mk_X11_isWord w19.2 vc_11 ml_RX11_170 im_X11_isWord se_X11_isWord rfl (Nat.le_of_ble_eq_true rfl) (by decide) rfl (Nat.le_of_ble_eq_true rfl) dX11_who_60 ?_
          refine V.if_eq (tgt := 70) dX11_who_63 (by decide) (fun c20 => ?_) (fun c20 => ?_)
          · have h := (if_pos c20).symm.trans h
            refine V.iconst dX11_who_70 ki_m1 ?_
            refine V.weak [true, true] ?_
            exact wb_X11_who_71 N h
          · have h := (if_neg c20).symm.trans h
            refine V.iconst dX11_who_66 ki_4 ?_
            refine V.goto (tgt := 71) dX11_who_67 (by decide) ?_
            refine V.weak [true, true] ?_
            exact wb_X11_who_71 N h
        · have h := (if_neg c16).symm.trans h
          refine V.iconst dX11_who_52 ki_3 ?_
          refine V.goto (tgt := 71) dX11_who_53 (by decide) ?_
          refine V.weak [true, true] ?_
          exact wb_X11_who_71 N h
      · have h := (if_neg c12).symm.trans h
        refine V.iconst dX11_who_38 ki_2 ?_
        refine V.goto (tgt := 71) dX11_who_39 (by decide) ?_
        refine V.weak [true, true] ?_
        exact wb_X11_who_71 N h
    · have h := (if_neg c8).symm.trans h
      refine V.iconst dX11_who_24 ki_1 ?_
      refine V.goto (tgt := 71) dX11_who_25 (by decide) ?_
      refine V.weak [true, true] ?_
      exact wb_X11_who_71 N h
  · have h := (if_neg c4).symm.trans h
    refine V.iconst dX11_who_10 ki_0 ?_
    refine V.goto (tgt := 71) dX11_who_11 (by decide) ?_
    refine V.weak [true, true] ?_
    exact wb_X11_who_71 N h
def f_X11_who (N : Nat) (A : LH) (v0 : Option Nat) (v1 : Int32) : Option (Int32 × LH) := if isO A v0 11 = true then zc (b_X11_who N A v0 v1) else none
theorem w_X11_who {g : GG} (N : Nat) {A : LH} {v0 : Option Nat} {v1 : Int32} {p : Int32 × LH} (h : f_X11_who N A v0 v1 = some p) : Ct g m_X11_who 3 [LR v0, LI v1] A (some (LI p.1)) p.2 := by
  unfold f_X11_who at h
  obtain ⟨ho, h⟩ := ifN h
  obtain ⟨h, hz⟩ := zc_sp h
  exact ⟨wb_X11_who N h, (RTz hz)⟩
theorem oo_X11_who {N : Nat} {A : LH} {v0 : Option Nat} {v1 : Int32} {p : Int32 × LH} (h : f_X11_who N A v0 v1 = some p) : isO A v0 11 = true := by unfold f_X11_who at h; exact (ifN h).1
def b_X11_oneLine_169 (N : Nat) (A : LH) (v0 : Option Nat) : Option (Int32 × LH) :=
  (gI A v0 11 30).bind fun x42 => (pF A v0 11 30 (LI (x42 + (1 : Int32)))).bind fun A44 => (f_X11_need N A44 v0 (59 : Int32)).bind fun p46 => some (p46.1, p46.2)
set_option maxRecDepth 4000 in
theorem wb_X11_oneLine_169 {g : GG} {n0 z0 : Nat} (N : Nat) {A : LH} {v0 : Option Nat} {p : Int32 × LH} (h : b_X11_oneLine_169 N A v0 = some p) : V g m_X11_oneLine 49 n0 z0 (some (LI p.1)) p.2 A 169 [some (LR v0)] [] := by
  unfold b_X11_oneLine_169 at h
  refine V.aload_n dX11_oneLine_169 rfl rfl ?_
  refine V.dup dX11_oneLine_170 rfl ?_
  obtain ⟨x42, h43, h⟩ := bnd h
  refine V.getF (gI_F h43) CF11 (Nat.le_of_ble_eq_true rfl) fl_RX11_185 dX11_oneLine_171 ?_
  refine V.iconst dX11_oneLine_174 ki_1 ?_
  refine V.iadd dX11_oneLine_175 ?_
  obtain ⟨A44, h45, h⟩ := bnd h
  refine V.putF h45 rfl rfl rfl CF11 (Nat.le_of_ble_eq_true rfl) fl_RX11_185 dX11_oneLine_176 ?_
  refine V.aload_n dX11_oneLine_179 rfl rfl ?_
  refine V.bipush dX11_oneLine_180 kb_59 ?_
  obtain ⟨p46, h47, h⟩ := bnd h
  have w48 := w_X11_need (g := g) N h47
  refine V.callVi (args := [LI (59 : Int32)]) (st := []) w48.1 (oo_X11_need h47) mk_X11_need w48.2 vc_11 ml_RX11_182 im_X11_need se_X11_need rfl (Nat.le_of_ble_eq_true rfl) (by decide) rfl (Nat.le_of_ble_eq_true rfl) dX11_oneLine_182 ?_
  obtain rfl := Option.some.inj h
  exact V.ireturn dX11_oneLine_185
def b_X11_oneLine_85 (N : Nat) (A : LH) (v0 : Option Nat) (v1 : Int32) (s0 : Int32) (s1 : Int32) (s2 : Option Nat) : Option (Int32 × LH) :=
  (sI A s2 0 s1 s0).bind fun A17 => (f_X11_next N A17 v0).bind fun p19 => (f_X11_who N p19 v0 v1).bind fun p22 => if p22.1 = 0 then some ((0 : Int32), p22.2) else (f_X11_act N p22.2 v0 v1).bind fun p26 => if p26.1 = 0 then some ((0 : Int32), p26.2) else (f_X11_what N p26.2 v0 v1).bind fun p30 => if p30.1 = 0 then some ((0 : Int32), p30.2) else (gR p30.2 v0 11 32).bind fun x34 => (sI p30.2 x34 0 (v1 + (6 : Int32)) (-1 : Int32)).bind fun A36 => (f_X11_isWord A36 v0 (2003330414 : Int64)).bind fun p38 => if p38 = 0 then b_X11_oneLine_169 N A36 v0 else (f_X11_next N A36 v0).bind fun p49 => (gR p49 v0 11 32).bind fun x52 => (gI p49 v0 11 31).bind fun x54 => (sI p49 x52 0 (v1 + (6 : Int32)) x54).bind fun A56 => (F_X11_any N 8 A56 v0).bind fun p58 => if p58.1 = 0 then some ((0 : Int32), p58.2) else (f_X11_put p58.2 v0 (13 : Int32) (0 : Int32)).bind fun p62 => b_X11_oneLine_169 N p62 v0
set_option maxRecDepth 4000 in
theorem wb_X11_oneLine_85 {g : GG} {n0 z0 : Nat} (N : Nat) {A : LH} {v0 : Option Nat} {v1 : Int32} {s0 : Int32} {s1 : Int32} {s2 : Option Nat} {p : Int32 × LH} (h : b_X11_oneLine_85 N A v0 v1 s0 s1 s2 = some p) : V g m_X11_oneLine 49 n0 z0 (some (LI p.1)) p.2 A 85 [some (LR v0), some (LI v1)] [LI s0, LI s1, LR s2] := by
  unfold b_X11_oneLine_85 at h
  obtain ⟨A17, h18, h⟩ := bnd h
  refine V.iast h18 dX11_oneLine_85 ?_
  refine V.aload_n dX11_oneLine_86 rfl rfl ?_
  obtain ⟨p19, h20, h⟩ := bnd h
  have w21 := w_X11_next (g := g) N h20
  refine V.callVv (args := []) (st := []) w21.1 (oo_X11_next h20) mk_X11_next w21.2 vc_11 ml_RX11_152 im_X11_next se_X11_next rfl (Nat.le_of_ble_eq_true rfl) (by decide) rfl (Nat.le_of_ble_eq_true rfl) dX11_oneLine_87 ?_
  refine V.aload_n dX11_oneLine_90 rfl rfl ?_
  refine V.iload_n dX11_oneLine_91 rfl rfl ?_
  obtain ⟨p22, h23, h⟩ := bnd h
  have w24 := w_X11_who (g := g) N h23
  refine V.callVi (args := [LI v1]) (st := []) w24.1 (oo_X11_who h23) mk_X11_who w24.2 vc_11 ml_RX11_188 im_X11_who se_X11_who rfl (Nat.le_of_ble_eq_true rfl) (by decide) rfl (Nat.le_of_ble_eq_true rfl) dX11_oneLine_92 ?_
  refine V.if_eq (tgt := 114) dX11_oneLine_95 (by decide) (fun c25 => ?_) (fun c25 => ?_)
  · have h := (if_pos c25).symm.trans h
    refine V.iconst dX11_oneLine_114 ki_0 ?_
    obtain rfl := Option.some.inj h
    exact V.ireturn dX11_oneLine_115
  · have h := (if_neg c25).symm.trans h
    refine V.aload_n dX11_oneLine_98 rfl rfl ?_
    refine V.iload_n dX11_oneLine_99 rfl rfl ?_
    obtain ⟨p26, h27, h⟩ := bnd h
    have w28 := w_X11_act (g := g) N h27
    refine V.callVi (args := [LI v1]) (st := []) w28.1 (oo_X11_act h27) mk_X11_act w28.2 vc_11 ml_RX11_191 im_X11_act se_X11_act rfl (Nat.le_of_ble_eq_true rfl) (by decide) rfl (Nat.le_of_ble_eq_true rfl) dX11_oneLine_100 ?_
    refine V.if_eq (tgt := 114) dX11_oneLine_103 (by decide) (fun c29 => ?_) (fun c29 => ?_)
    · have h := (if_pos c29).symm.trans h
      refine V.iconst dX11_oneLine_114 ki_0 ?_
      obtain rfl := Option.some.inj h
      exact V.ireturn dX11_oneLine_115
    · have h := (if_neg c29).symm.trans h
      refine V.aload_n dX11_oneLine_106 rfl rfl ?_
      refine V.iload_n dX11_oneLine_107 rfl rfl ?_
      obtain ⟨p30, h31, h⟩ := bnd h
      have w32 := w_X11_what (g := g) N h31
      refine V.callVi (args := [LI v1]) (st := []) w32.1 (oo_X11_what h31) mk_X11_what w32.2 vc_11 ml_RX11_194 im_X11_what se_X11_what rfl (Nat.le_of_ble_eq_true rfl) (by decide) rfl (Nat.le_of_ble_eq_true rfl) dX11_oneLine_108 ?_
      refine V.if_ne (tgt := 116) dX11_oneLine_111 (by decide) (fun c33 => ?_) (fun c33 => ?_)
      · have h := (if_neg c33).symm.trans h
        refine V.aload_n dX11_oneLine_116 rfl rfl ?_
        obtain ⟨x34, h35, h⟩ := bnd h
        refine V.getF (gR_F h35) CF11 (Nat.le_of_ble_eq_true rfl) fl_RX11_63 dX11_oneLine_117 ?_
        refine V.iload_n dX11_oneLine_120 rfl rfl ?_
        refine V.bipush dX11_oneLine_121 kb_6 ?_
        refine V.iadd dX11_oneLine_123 ?_
        refine V.iconst dX11_oneLine_124 ki_m1 ?_
        obtain ⟨A36, h37, h⟩ := bnd h
        refine V.iast h37 dX11_oneLine_125 ?_
        refine V.aload_n dX11_oneLine_126 rfl rfl ?_
        refine V.ldc2 kc_RX11_197 dX11_oneLine_127 ?_
        obtain ⟨p38, h39, h⟩ := bnd h
        have w40 := w_X11_isWord (g := g) h39
        refine V.callVi (args := [LJ (2003330414 : Int64)]) (st := []) w40.1 (oo_X11_isWord h39) mk_X11_isWord w40.2 vc_11 ml_RX11_170 im_X11_isWord se_X11_isWord rfl (Nat.le_of_ble_eq_true rfl) (by decide) rfl (Nat.le_of_ble_eq_true rfl) dX11_oneLine_130 ?_
        refine V.if_eq (tgt := 169) dX11_oneLine_133 (by decide) (fun c41 => ?_) (fun c41 => ?_)
        · have h := (if_pos c41).symm.trans h
          refine V.weak [true] ?_
          exact wb_X11_oneLine_169 N h
        · have h := (if_neg c41).symm.trans h
          refine V.aload_n dX11_oneLine_136 rfl rfl ?_
          obtain ⟨p49, h50, h⟩ := bnd h
          have w51 := w_X11_next (g := g) N h50
          refine V.callVv (args := []) (st := []) w51.1 (oo_X11_next h50) mk_X11_next w51.2 vc_11 ml_RX11_152 im_X11_next se_X11_next rfl (Nat.le_of_ble_eq_true rfl) (by decide) rfl (Nat.le_of_ble_eq_true rfl) dX11_oneLine_137 ?_
          refine V.aload_n dX11_oneLine_140 rfl rfl ?_
          obtain ⟨x52, h53, h⟩ := bnd h
          refine V.getF (gR_F h53) CF11 (Nat.le_of_ble_eq_true rfl) fl_RX11_63 dX11_oneLine_141 ?_
          refine V.iload_n dX11_oneLine_144 rfl rfl ?_
          refine V.bipush dX11_oneLine_145 kb_6 ?_
          refine V.iadd dX11_oneLine_147 ?_
          refine V.aload_n dX11_oneLine_148 rfl rfl ?_
          obtain ⟨x54, h55, h⟩ := bnd h
          refine V.getF (gI_F h55) CF11 (Nat.le_of_ble_eq_true rfl) fl_RX11_162 dX11_oneLine_149 ?_
          obtain ⟨A56, h57, h⟩ := bnd h
          refine V.iast h57 dX11_oneLine_152 ?_
          refine V.aload_n dX11_oneLine_153 rfl rfl ?_
          obtain ⟨p58, h59, h⟩ := bnd h
          obtain ⟨w60, ow60⟩ := w_F_X11_any (g := g) N 8 h59
          refine V.callVi (args := []) (st := []) w60.1 ow60 mk_X11_any w60.2 vc_11 ml_RX11_199 im_X11_any se_X11_any rfl (Nat.le_of_ble_eq_true rfl) (by decide) rfl (Nat.le_of_ble_eq_true rfl) dX11_oneLine_154 ?_
          refine V.if_ne (tgt := 162) dX11_oneLine_157 (by decide) (fun c61 => ?_) (fun c61 => ?_)
          · have h := (if_neg c61).symm.trans h
            refine V.aload_n dX11_oneLine_162 rfl rfl ?_
            refine V.bipush dX11_oneLine_163 kb_13 ?_
            refine V.iconst dX11_oneLine_165 ki_0 ?_
            obtain ⟨p62, h63, h⟩ := bnd h
            have w64 := w_X11_put (g := g) h63
            refine V.callVv (args := [LI (13 : Int32), LI (0 : Int32)]) (st := []) w64.1 (oo_X11_put h63) mk_X11_put w64.2 vc_11 ml_RX11_202 im_X11_put se_X11_put rfl (Nat.le_of_ble_eq_true rfl) (by decide) rfl (Nat.le_of_ble_eq_true rfl) dX11_oneLine_166 ?_
            refine V.weak [true] ?_
            exact wb_X11_oneLine_169 N h
          · have h := (if_pos c61).symm.trans h
            refine V.iconst dX11_oneLine_160 ki_0 ?_
            obtain rfl := Option.some.inj h
            exact V.ireturn dX11_oneLine_161
      · have h := (if_pos c33).symm.trans h
        refine V.iconst dX11_oneLine_114 ki_0 ?_
        obtain rfl := Option.some.inj h
        exact V.ireturn dX11_oneLine_115
def b_X11_oneLine_63 (N : Nat) (A : LH) (v0 : Option Nat) (s0 : Int32) (s1 : Int32) : Option (Int32 × LH) :=
  (gR A v0 11 32).bind fun x11 => (f_X11_isWord A v0 (7103860 : Int64)).bind fun p13 => if p13 = 0 then b_X11_oneLine_85 N A v0 (s1 * s0) (0 : Int32) (s1 * s0) x11 else b_X11_oneLine_85 N A v0 (s1 * s0) (1 : Int32) (s1 * s0) x11
set_option maxRecDepth 4000 in
theorem wb_X11_oneLine_63 {g : GG} {n0 z0 : Nat} (N : Nat) {A : LH} {v0 : Option Nat} {s0 : Int32} {s1 : Int32} {p : Int32 × LH} (h : b_X11_oneLine_63 N A v0 s0 s1 = some p) : V g m_X11_oneLine 49 n0 z0 (some (LI p.1)) p.2 A 63 [some (LR v0)] [LI s0, LI s1] := by
  unfold b_X11_oneLine_63 at h
  refine V.imul dX11_oneLine_63 ?_
  refine V.istore_n (ls' := [some (LR v0), some (LI (s1 * s0))]) dX11_oneLine_64 rfl (by decide) rfl rfl ?_
  refine V.aload_n dX11_oneLine_65 rfl rfl ?_
  obtain ⟨x11, h12, h⟩ := bnd h
  refine V.getF (gR_F h12) CF11 (Nat.le_of_ble_eq_true rfl) fl_RX11_63 dX11_oneLine_66 ?_
  refine V.iload_n dX11_oneLine_69 rfl rfl ?_
  refine V.aload_n dX11_oneLine_70 rfl rfl ?_
  refine V.ldc2 kc_RX11_180 dX11_oneLine_71 ?_
  obtain ⟨p13, h14, h⟩ := bnd h
  have w15 := w_X11_isWord (g := g) h14
  refine V.callVi (args := [LJ (7103860 : Int64)]) (st := [LI (s1 * s0), LR x11]) w15.1 (oo_X11_isWord h14) mk_X11_isWord w15.2 vc_11 ml_RX11_170 im_X11_isWord se_X11_isWord rfl (Nat.le_of_ble_eq_true rfl) (by decide) rfl (Nat.le_of_ble_eq_true rfl) dX11_oneLine_74 ?_
  refine V.if_eq (tgt := 84) dX11_oneLine_77 (by decide) (fun c16 => ?_) (fun c16 => ?_)
  · have h := (if_pos c16).symm.trans h
    refine V.iconst dX11_oneLine_84 ki_0 ?_
    refine V.weak [true, true] ?_
    exact wb_X11_oneLine_85 N h
  · have h := (if_neg c16).symm.trans h
    refine V.iconst dX11_oneLine_80 ki_1 ?_
    refine V.goto (tgt := 85) dX11_oneLine_81 (by decide) ?_
    refine V.weak [true, true] ?_
    exact wb_X11_oneLine_85 N h
def b_X11_oneLine_43 (N : Nat) (A : LH) (v0 : Option Nat) : Option (Int32 × LH) :=
  (gI A v0 11 30).bind fun x8 => if (12 : Int32) ≤ x8 then b_X11_oneLine_63 N A v0 (12 : Int32) (8 : Int32) else (gI A v0 11 30).bind fun x65 => b_X11_oneLine_63 N A v0 x65 (8 : Int32)
set_option maxRecDepth 4000 in
theorem wb_X11_oneLine_43 {g : GG} {n0 z0 : Nat} (N : Nat) {A : LH} {v0 : Option Nat} {p : Int32 × LH} (h : b_X11_oneLine_43 N A v0 = some p) : V g m_X11_oneLine 49 n0 z0 (some (LI p.1)) p.2 A 43 [some (LR v0)] [] := by
  unfold b_X11_oneLine_43 at h
  refine V.bipush dX11_oneLine_43 kb_8 ?_
  refine V.aload_n dX11_oneLine_45 rfl rfl ?_
  obtain ⟨x8, h9, h⟩ := bnd h
  refine V.getF (gI_F h9) CF11 (Nat.le_of_ble_eq_true rfl) fl_RX11_185 dX11_oneLine_46 ?_
  refine V.bipush dX11_oneLine_49 kb_12 ?_
  refine V.icmp_ge (tgt := 61) dX11_oneLine_51 (by decide) (fun c10 => ?_) (fun c10 => ?_)
  · have h := (if_pos c10).symm.trans h
    refine V.bipush dX11_oneLine_61 kb_12 ?_
    refine V.weak [true] ?_
    exact wb_X11_oneLine_63 N h
  · have h := (if_neg c10).symm.trans h
    refine V.aload_n dX11_oneLine_54 rfl rfl ?_
    obtain ⟨x65, h66, h⟩ := bnd h
    refine V.getF (gI_F h66) CF11 (Nat.le_of_ble_eq_true rfl) fl_RX11_185 dX11_oneLine_55 ?_
    refine V.goto (tgt := 63) dX11_oneLine_58 (by decide) ?_
    refine V.weak [true] ?_
    exact wb_X11_oneLine_63 N h
def b_X11_oneLine_25 (N : Nat) (A : LH) (v0 : Option Nat) : Option (Int32 × LH) :=
  (gI A v0 11 30).bind fun x5 => if x5 = (12 : Int32) then (gI A v0 11 20).bind fun x67 => (f_X11_note A v0 (3 : Int32) x67).bind fun p69 => b_X11_oneLine_43 N p69 v0 else b_X11_oneLine_43 N A v0
set_option maxRecDepth 4000 in
theorem wb_X11_oneLine_25 {g : GG} {n0 z0 : Nat} (N : Nat) {A : LH} {v0 : Option Nat} {p : Int32 × LH} (h : b_X11_oneLine_25 N A v0 = some p) : V g m_X11_oneLine 49 n0 z0 (some (LI p.1)) p.2 A 25 [some (LR v0)] [] := by
  unfold b_X11_oneLine_25 at h
  refine V.aload_n dX11_oneLine_25 rfl rfl ?_
  obtain ⟨x5, h6, h⟩ := bnd h
  refine V.getF (gI_F h6) CF11 (Nat.le_of_ble_eq_true rfl) fl_RX11_185 dX11_oneLine_26 ?_
  refine V.bipush dX11_oneLine_29 kb_12 ?_
  refine V.icmp_ne (tgt := 43) dX11_oneLine_31 (by decide) (fun c7 => ?_) (fun c7 => ?_)
  · have h := (if_neg c7).symm.trans h
    refine V.weak [true] ?_
    exact wb_X11_oneLine_43 N h
  · have h := (if_pos c7).symm.trans h
    refine V.aload_n dX11_oneLine_34 rfl rfl ?_
    refine V.iconst dX11_oneLine_35 ki_3 ?_
    refine V.aload_n dX11_oneLine_36 rfl rfl ?_
    obtain ⟨x67, h68, h⟩ := bnd h
    refine V.getF (gI_F h68) CF11 (Nat.le_of_ble_eq_true rfl) fl_RX11_122 dX11_oneLine_37 ?_
    obtain ⟨p69, h70, h⟩ := bnd h
    have w71 := w_X11_note (g := g) h70
    refine V.callVv (args := [LI (3 : Int32), LI x67]) (st := []) w71.1 (oo_X11_note h70) mk_X11_note w71.2 vc_11 ml_RX11_158 im_X11_note se_X11_note rfl (Nat.le_of_ble_eq_true rfl) (by decide) rfl (Nat.le_of_ble_eq_true rfl) dX11_oneLine_40 ?_
    refine V.weak [true] ?_
    exact wb_X11_oneLine_43 N h
def b_X11_oneLine (N : Nat) (A : LH) (v0 : Option Nat) : Option (Int32 × LH) :=
  (f_X11_isWord A v0 (7103860 : Int64)).bind fun p1 => if p1 = 0 then (f_X11_isWord A v0 (1937010544 : Int64)).bind fun p72 => if p72 = 0 then (f_X11_wrong A v0).bind fun p76 => some (p76.1, p76.2) else b_X11_oneLine_25 N A v0 else b_X11_oneLine_25 N A v0
set_option maxRecDepth 4000 in
theorem wb_X11_oneLine {g : GG} {n0 z0 : Nat} (N : Nat) {A : LH} {v0 : Option Nat} {p : Int32 × LH} (h : b_X11_oneLine N A v0 = some p) : V g m_X11_oneLine 49 n0 z0 (some (LI p.1)) p.2 A 0 [some (LR v0)] [] := by
  unfold b_X11_oneLine at h
  refine V.aload_n dX11_oneLine_0 rfl rfl ?_
  refine V.ldc2 kc_RX11_180 dX11_oneLine_1 ?_
  obtain ⟨p1, h2, h⟩ := bnd h
  have w3 := w_X11_isWord (g := g) h2
  refine V.callVi (args := [LJ (7103860 : Int64)]) (st := []) w3.1 (oo_X11_isWord h2) mk_X11_isWord w3.2 vc_11 ml_RX11_170 im_X11_isWord se_X11_isWord rfl (Nat.le_of_ble_eq_true rfl) (by decide) rfl (Nat.le_of_ble_eq_true rfl) dX11_oneLine_4 ?_
  refine V.if_ne (tgt := 25) dX11_oneLine_7 (by decide) (fun c4 => ?_) (fun c4 => ?_)
  · have h := (if_neg c4).symm.trans h
    refine V.weak [true] ?_
    exact wb_X11_oneLine_25 N h
  · have h := (if_pos c4).symm.trans h
    refine V.aload_n dX11_oneLine_10 rfl rfl ?_
    refine V.ldc2 kc_RX11_178 dX11_oneLine_11 ?_
    obtain ⟨p72, h73, h⟩ := bnd h
    have w74 := w_X11_isWord (g := g) h73
    refine V.callVi (args := [LJ (1937010544 : Int64)]) (st := []) w74.1 (oo_X11_isWord h73) mk_X11_isWord w74.2 vc_11 ml_RX11_170 im_X11_isWord se_X11_isWord rfl (Nat.le_of_ble_eq_true rfl) (by decide) rfl (Nat.le_of_ble_eq_true rfl) dX11_oneLine_14 ?_
    refine V.if_ne (tgt := 25) dX11_oneLine_17 (by decide) (fun c75 => ?_) (fun c75 => ?_)
    · have h := (if_neg c75).symm.trans h
      refine V.weak [true] ?_
      exact wb_X11_oneLine_25 N h
    · have h := (if_pos c75).symm.trans h
      refine V.aload_n dX11_oneLine_20 rfl rfl ?_
      obtain ⟨p76, h77, h⟩ := bnd h
      have w78 := w_X11_wrong (g := g) h77
      refine V.callVi (args := []) (st := []) w78.1 (oo_X11_wrong h77) mk_X11_wrong w78.2 vc_11 ml_RX11_148 im_X11_wrong se_X11_wrong rfl (Nat.le_of_ble_eq_true rfl) (by decide) rfl (Nat.le_of_ble_eq_true rfl) dX11_oneLine_21 ?_
      obtain rfl := Option.some.inj h
      exact V.ireturn dX11_oneLine_24
def f_X11_oneLine (N : Nat) (A : LH) (v0 : Option Nat) : Option (Int32 × LH) := if isO A v0 11 = true then zc (b_X11_oneLine N A v0) else none
theorem w_X11_oneLine {g : GG} (N : Nat) {A : LH} {v0 : Option Nat} {p : Int32 × LH} (h : f_X11_oneLine N A v0 = some p) : Ct g m_X11_oneLine 49 [LR v0] A (some (LI p.1)) p.2 := by
  unfold f_X11_oneLine at h
  obtain ⟨ho, h⟩ := ifN h
  obtain ⟨h, hz⟩ := zc_sp h
  exact ⟨wb_X11_oneLine N h, (RTz hz)⟩
theorem oo_X11_oneLine {N : Nat} {A : LH} {v0 : Option Nat} {p : Int32 × LH} (h : f_X11_oneLine N A v0 = some p) : isO A v0 11 = true := by unfold f_X11_oneLine at h; exact (ifN h).1
def b_X11_isSlot (A : LH) (v0 : Option Nat) (v1 : Int32) : Option (Int32) :=
  (f_X11_in v1 (0 : Int32) (3 : Int32)).bind fun p1 => some p1
set_option maxRecDepth 4000 in
theorem wb_X11_isSlot {g : GG} {n0 z0 : Nat} {A : LH} {v0 : Option Nat} {v1 : Int32} {p : Int32} (h : b_X11_isSlot A v0 v1 = some p) : V g m_X11_isSlot 1 n0 z0 (some (LI p)) A A 0 [some (LR v0), some (LI v1)] [] := by
  unfold b_X11_isSlot at h
  refine V.iload_n dX11_isSlot_0 rfl rfl ?_
  refine V.iconst dX11_isSlot_1 ki_0 ?_
  refine V.iconst dX11_isSlot_2 ki_3 ?_
  obtain ⟨p1, h2, h⟩ := bnd h
  have w3 := w_X11_in (g := g) (A := A) h2
  refine V.callSi (args := [LI v1, LI (0 : Int32), LI (3 : Int32)]) (st := []) w3.1 mk_X11_in w3.2 ml_RX11_108 sm_X11_in rfl (Nat.le_of_ble_eq_true rfl) (by decide) rfl (Nat.le_of_ble_eq_true rfl) dX11_isSlot_3 ?_
  obtain rfl := Option.some.inj h
  exact V.ireturn dX11_isSlot_6
def f_X11_isSlot (A : LH) (v0 : Option Nat) (v1 : Int32) : Option (Int32) := if isO A v0 11 = true then zd (b_X11_isSlot A v0 v1) else none
theorem w_X11_isSlot {g : GG} {A : LH} {v0 : Option Nat} {v1 : Int32} {p : Int32} (h : f_X11_isSlot A v0 v1 = some p) : Ct g m_X11_isSlot 1 [LR v0, LI v1] A (some (LI p)) A := by
  unfold f_X11_isSlot at h
  obtain ⟨ho, h⟩ := ifN h
  obtain ⟨h, hz⟩ := zd_sp h
  exact ⟨wb_X11_isSlot h, (RTz hz)⟩
theorem oo_X11_isSlot {A : LH} {v0 : Option Nat} {v1 : Int32} {p : Int32} (h : f_X11_isSlot A v0 v1 = some p) : isO A v0 11 = true := by unfold f_X11_isSlot at h; exact (ifN h).1
def b_X11_rules_189 (N : Nat) (k189 : LH → Option Nat → Int32 → Int32 → Option (Int32 × LH)) (A : LH) (v0 : Option Nat) (v1 : Int32) (v3 : Int32) : Option (Int32 × LH) :=
  (gI A v0 11 31).bind fun x55 => if x55 ≤ v3 then (gI A v0 11 36).bind fun x58 => (pF A v0 11 36 (LI (x58 + (1 : Int32)))).bind fun A60 => (gR A60 v0 11 37).bind fun x62 => (gI A60 v0 11 36).bind fun x64 => (sI A60 x62 0 v1 x64).bind fun A66 => (gI A66 v0 11 30).bind fun x68 => some (x68, A66) else (gR A v0 11 16).bind fun x70 => (gR A v0 11 33).bind fun x72 => (aI A x72 1 v3).bind fun x74 => (sI A x70 1 (((900 : Int32) * v1) + v3) (x74).toInt8.toInt32).bind fun A76 => (gR A76 v0 11 17).bind fun x78 => (gR A76 v0 11 34).bind fun x80 => (aI A76 x80 0 v3).bind fun x82 => (sI A76 x78 0 (((900 : Int32) * v1) + v3) x82).bind fun A84 => k189 A84 v0 v1 (v3 + (1 : Int32))
set_option maxRecDepth 4000 in
theorem wb_X11_rules_189 {g : GG} {n0 z0 : Nat} (N : Nat) {k189 : LH → Option Nat → Int32 → Int32 → Option (Int32 × LH)} {A : LH} {v0 : Option Nat} {v1 : Int32} {v3 : Int32} {p : Int32 × LH} (hk189 : ∀ {A : LH} {v0 : Option Nat} {v1 : Int32} {v3 : Int32} {p : Int32 × LH}, k189 A v0 v1 v3 = some p → V g m_X11_rules 50 n0 z0 (some (LI p.1)) p.2 A 189 [some (LR v0), some (LI v1), none, some (LI v3)] []) (h : b_X11_rules_189 N k189 A v0 v1 v3 = some p) : V g m_X11_rules 50 n0 z0 (some (LI p.1)) p.2 A 189 [some (LR v0), some (LI v1), none, some (LI v3)] [] := by
  unfold b_X11_rules_189 at h
  refine V.iload_n dX11_rules_189 rfl rfl ?_
  refine V.aload_n dX11_rules_190 rfl rfl ?_
  obtain ⟨x55, h56, h⟩ := bnd h
  refine V.getF (gI_F h56) CF11 (Nat.le_of_ble_eq_true rfl) fl_RX11_162 dX11_rules_191 ?_
  refine V.icmp_ge (tgt := 239) dX11_rules_194 (by decide) (fun c57 => ?_) (fun c57 => ?_)
  · have h := (if_pos c57).symm.trans h
    refine V.aload_n dX11_rules_239 rfl rfl ?_
    refine V.dup dX11_rules_240 rfl ?_
    obtain ⟨x58, h59, h⟩ := bnd h
    refine V.getF (gI_F h59) CF11 (Nat.le_of_ble_eq_true rfl) fl_RX11_268 dX11_rules_241 ?_
    refine V.iconst dX11_rules_244 ki_1 ?_
    refine V.iadd dX11_rules_245 ?_
    obtain ⟨A60, h61, h⟩ := bnd h
    refine V.putF h61 rfl rfl rfl CF11 (Nat.le_of_ble_eq_true rfl) fl_RX11_268 dX11_rules_246 ?_
    refine V.aload_n dX11_rules_249 rfl rfl ?_
    obtain ⟨x62, h63, h⟩ := bnd h
    refine V.getF (gR_F h63) CF11 (Nat.le_of_ble_eq_true rfl) fl_RX11_72 dX11_rules_250 ?_
    refine V.iload_n dX11_rules_253 rfl rfl ?_
    refine V.aload_n dX11_rules_254 rfl rfl ?_
    obtain ⟨x64, h65, h⟩ := bnd h
    refine V.getF (gI_F h65) CF11 (Nat.le_of_ble_eq_true rfl) fl_RX11_268 dX11_rules_255 ?_
    obtain ⟨A66, h67, h⟩ := bnd h
    refine V.iast h67 dX11_rules_258 ?_
    refine V.aload_n dX11_rules_259 rfl rfl ?_
    obtain ⟨x68, h69, h⟩ := bnd h
    refine V.getF (gI_F h69) CF11 (Nat.le_of_ble_eq_true rfl) fl_RX11_185 dX11_rules_260 ?_
    obtain rfl := Option.some.inj h
    exact V.ireturn dX11_rules_263
  · have h := (if_neg c57).symm.trans h
    refine V.aload_n dX11_rules_197 rfl rfl ?_
    obtain ⟨x70, h71, h⟩ := bnd h
    refine V.getF (gR_F h71) CF11 (Nat.le_of_ble_eq_true rfl) fl_RX11_53 dX11_rules_198 ?_
    refine V.sipush dX11_rules_201 ks_900 ?_
    refine V.iload_n dX11_rules_204 rfl rfl ?_
    refine V.imul dX11_rules_205 ?_
    refine V.iload_n dX11_rules_206 rfl rfl ?_
    refine V.iadd dX11_rules_207 ?_
    refine V.aload_n dX11_rules_208 rfl rfl ?_
    obtain ⟨x72, h73, h⟩ := bnd h
    refine V.getF (gR_F h73) CF11 (Nat.le_of_ble_eq_true rfl) fl_RX11_66 dX11_rules_209 ?_
    refine V.iload_n dX11_rules_212 rfl rfl ?_
    obtain ⟨x74, h75, h⟩ := bnd h
    refine V.bald h75 dX11_rules_213 ?_
    obtain ⟨A76, h77, h⟩ := bnd h
    refine V.bast h77 dX11_rules_214 ?_
    refine V.aload_n dX11_rules_215 rfl rfl ?_
    obtain ⟨x78, h79, h⟩ := bnd h
    refine V.getF (gR_F h79) CF11 (Nat.le_of_ble_eq_true rfl) fl_RX11_56 dX11_rules_216 ?_
    refine V.sipush dX11_rules_219 ks_900 ?_
    refine V.iload_n dX11_rules_222 rfl rfl ?_
    refine V.imul dX11_rules_223 ?_
    refine V.iload_n dX11_rules_224 rfl rfl ?_
    refine V.iadd dX11_rules_225 ?_
    refine V.aload_n dX11_rules_226 rfl rfl ?_
    obtain ⟨x80, h81, h⟩ := bnd h
    refine V.getF (gR_F h81) CF11 (Nat.le_of_ble_eq_true rfl) fl_RX11_69 dX11_rules_227 ?_
    refine V.iload_n dX11_rules_230 rfl rfl ?_
    obtain ⟨x82, h83, h⟩ := bnd h
    refine V.iald h83 dX11_rules_231 ?_
    obtain ⟨A84, h85, h⟩ := bnd h
    refine V.iast h85 dX11_rules_232 ?_
    refine V.iinc (ls' := [some (LR v0), some (LI v1), none, some (LI (v3 + (1 : Int32)))]) dX11_rules_233 rfl ki_1 (by decide) rfl rfl ?_
    refine V.goto (tgt := 189) dX11_rules_236 (by decide) ?_
    refine V.weak [true, true, false, true] ?_
    exact hk189 h
def l_X11_rules_189 (N : Nat) : Nat → LH → Option Nat → Int32 → Int32 → Option (Int32 × LH)
  | 0, _, _, _, _ => none
  | n + 1, A, v0, v1, v3 => b_X11_rules_189 N (l_X11_rules_189 N n) A v0 v1 v3
theorem wl_X11_rules_189 {g : GG} {n0 z0 : Nat} (N : Nat) : ∀ (n : Nat) {A : LH} {v0 : Option Nat} {v1 : Int32} {v3 : Int32} {p : Int32 × LH}, l_X11_rules_189 N n A v0 v1 v3 = some p → V g m_X11_rules 50 n0 z0 (some (LI p.1)) p.2 A 189 [some (LR v0), some (LI v1), none, some (LI v3)] []
  | 0, _, _, _, _, _, h => nomatch h
  | n + 1, _, _, _, _, _, h => wb_X11_rules_189 N (wl_X11_rules_189 N n) h
def b_X11_rules_153 (N : Nat) (k153 : LH → Option Nat → Int32 → Int32 → Option (Int32 × LH)) (A : LH) (v0 : Option Nat) (v1 : Int32) (v3 : Int32) : Option (Int32 × LH) :=
  (gI A v0 11 30).bind fun x52 => if ((8 : Int32) * x52) ≤ v3 then l_X11_rules_189 N N A v0 v1 (0 : Int32) else (gR A v0 11 15).bind fun x86 => (gR A v0 11 32).bind fun x88 => (aI A x88 0 v3).bind fun x90 => (sI A x86 0 (((96 : Int32) * v1) + v3) x90).bind fun A92 => k153 A92 v0 v1 (v3 + (1 : Int32))
set_option maxRecDepth 4000 in
theorem wb_X11_rules_153 {g : GG} {n0 z0 : Nat} (N : Nat) {k153 : LH → Option Nat → Int32 → Int32 → Option (Int32 × LH)} {A : LH} {v0 : Option Nat} {v1 : Int32} {v3 : Int32} {p : Int32 × LH} (hk153 : ∀ {A : LH} {v0 : Option Nat} {v1 : Int32} {v3 : Int32} {p : Int32 × LH}, k153 A v0 v1 v3 = some p → V g m_X11_rules 50 n0 z0 (some (LI p.1)) p.2 A 153 [some (LR v0), some (LI v1), none, some (LI v3)] []) (h : b_X11_rules_153 N k153 A v0 v1 v3 = some p) : V g m_X11_rules 50 n0 z0 (some (LI p.1)) p.2 A 153 [some (LR v0), some (LI v1), none, some (LI v3)] [] := by
  unfold b_X11_rules_153 at h
  refine V.iload_n dX11_rules_153 rfl rfl ?_
  refine V.bipush dX11_rules_154 kb_8 ?_
  refine V.aload_n dX11_rules_156 rfl rfl ?_
  obtain ⟨x52, h53, h⟩ := bnd h
  refine V.getF (gI_F h53) CF11 (Nat.le_of_ble_eq_true rfl) fl_RX11_185 dX11_rules_157 ?_
  refine V.imul dX11_rules_160 ?_
  refine V.icmp_ge (tgt := 187) dX11_rules_161 (by decide) (fun c54 => ?_) (fun c54 => ?_)
  · have h := (if_pos c54).symm.trans h
    refine V.iconst dX11_rules_187 ki_0 ?_
    refine V.istore_n (ls' := [some (LR v0), some (LI v1), none, some (LI (0 : Int32))]) dX11_rules_188 rfl (by decide) rfl rfl ?_
    refine V.weak [true, true, false, true] ?_
    exact wl_X11_rules_189 N N h
  · have h := (if_neg c54).symm.trans h
    refine V.aload_n dX11_rules_164 rfl rfl ?_
    obtain ⟨x86, h87, h⟩ := bnd h
    refine V.getF (gR_F h87) CF11 (Nat.le_of_ble_eq_true rfl) fl_RX11_50 dX11_rules_165 ?_
    refine V.bipush dX11_rules_168 kb_96 ?_
    refine V.iload_n dX11_rules_170 rfl rfl ?_
    refine V.imul dX11_rules_171 ?_
    refine V.iload_n dX11_rules_172 rfl rfl ?_
    refine V.iadd dX11_rules_173 ?_
    refine V.aload_n dX11_rules_174 rfl rfl ?_
    obtain ⟨x88, h89, h⟩ := bnd h
    refine V.getF (gR_F h89) CF11 (Nat.le_of_ble_eq_true rfl) fl_RX11_63 dX11_rules_175 ?_
    refine V.iload_n dX11_rules_178 rfl rfl ?_
    obtain ⟨x90, h91, h⟩ := bnd h
    refine V.iald h91 dX11_rules_179 ?_
    obtain ⟨A92, h93, h⟩ := bnd h
    refine V.iast h93 dX11_rules_180 ?_
    refine V.iinc (ls' := [some (LR v0), some (LI v1), none, some (LI (v3 + (1 : Int32)))]) dX11_rules_181 rfl ki_1 (by decide) rfl rfl ?_
    refine V.goto (tgt := 153) dX11_rules_184 (by decide) ?_
    refine V.weak [true, true, false, true] ?_
    exact hk153 h
def l_X11_rules_153 (N : Nat) : Nat → LH → Option Nat → Int32 → Int32 → Option (Int32 × LH)
  | 0, _, _, _, _ => none
  | n + 1, A, v0, v1, v3 => b_X11_rules_153 N (l_X11_rules_153 N n) A v0 v1 v3
theorem wl_X11_rules_153 {g : GG} {n0 z0 : Nat} (N : Nat) : ∀ (n : Nat) {A : LH} {v0 : Option Nat} {v1 : Int32} {v3 : Int32} {p : Int32 × LH}, l_X11_rules_153 N n A v0 v1 v3 = some p → V g m_X11_rules 50 n0 z0 (some (LI p.1)) p.2 A 153 [some (LR v0), some (LI v1), none, some (LI v3)] []
  | 0, _, _, _, _, _, h => nomatch h
  | n + 1, _, _, _, _, _, h => wb_X11_rules_153 N (wl_X11_rules_153 N n) h
def b_X11_rules_122 (N : Nat) (A : LH) (v0 : Option Nat) (v1 : Int32) : Option (Int32 × LH) :=
  (gI A v0 11 24).bind fun x37 => if x37 ≤ 0 then (gR A v0 11 13).bind fun x40 => (gI A v0 11 29).bind fun x42 => (sI A x40 0 v1 x42).bind fun A44 => (gR A44 v0 11 14).bind fun x46 => (gI A44 v0 11 30).bind fun x48 => (sI A44 x46 0 v1 x48).bind fun A50 => l_X11_rules_153 N N A50 v0 v1 (0 : Int32) else some ((-1 : Int32), A)
set_option maxRecDepth 4000 in
theorem wb_X11_rules_122 {g : GG} {n0 z0 : Nat} (N : Nat) {A : LH} {v0 : Option Nat} {v1 : Int32} {p : Int32 × LH} (h : b_X11_rules_122 N A v0 v1 = some p) : V g m_X11_rules 50 n0 z0 (some (LI p.1)) p.2 A 122 [some (LR v0), some (LI v1)] [] := by
  unfold b_X11_rules_122 at h
  refine V.aload_n dX11_rules_122 rfl rfl ?_
  obtain ⟨x37, h38, h⟩ := bnd h
  refine V.getF (gI_F h38) CF11 (Nat.le_of_ble_eq_true rfl) fl_RX11_135 dX11_rules_123 ?_
  refine V.if_le (tgt := 131) dX11_rules_126 (by decide) (fun c39 => ?_) (fun c39 => ?_)
  · have h := (if_pos c39).symm.trans h
    refine V.aload_n dX11_rules_131 rfl rfl ?_
    obtain ⟨x40, h41, h⟩ := bnd h
    refine V.getF (gR_F h41) CF11 (Nat.le_of_ble_eq_true rfl) fl_RX11_44 dX11_rules_132 ?_
    refine V.iload_n dX11_rules_135 rfl rfl ?_
    refine V.aload_n dX11_rules_136 rfl rfl ?_
    obtain ⟨x42, h43, h⟩ := bnd h
    refine V.getF (gI_F h43) CF11 (Nat.le_of_ble_eq_true rfl) fl_RX11_165 dX11_rules_137 ?_
    obtain ⟨A44, h45, h⟩ := bnd h
    refine V.iast h45 dX11_rules_140 ?_
    refine V.aload_n dX11_rules_141 rfl rfl ?_
    obtain ⟨x46, h47, h⟩ := bnd h
    refine V.getF (gR_F h47) CF11 (Nat.le_of_ble_eq_true rfl) fl_RX11_47 dX11_rules_142 ?_
    refine V.iload_n dX11_rules_145 rfl rfl ?_
    refine V.aload_n dX11_rules_146 rfl rfl ?_
    obtain ⟨x48, h49, h⟩ := bnd h
    refine V.getF (gI_F h49) CF11 (Nat.le_of_ble_eq_true rfl) fl_RX11_185 dX11_rules_147 ?_
    obtain ⟨A50, h51, h⟩ := bnd h
    refine V.iast h51 dX11_rules_150 ?_
    refine V.iconst dX11_rules_151 ki_0 ?_
    refine V.istore_n (ls' := [some (LR v0), some (LI v1), none, some (LI (0 : Int32))]) dX11_rules_152 rfl (by decide) rfl rfl ?_
    refine V.weak [true, true, false, true] ?_
    exact wl_X11_rules_153 N N h
  · have h := (if_neg c39).symm.trans h
    refine V.iconst dX11_rules_129 ki_m1 ?_
    obtain rfl := Option.some.inj h
    exact V.ireturn dX11_rules_130
def b_X11_rules_92 (N : Nat) (A : LH) (v0 : Option Nat) (v1 : Int32) : Option (Int32 × LH) :=
  (gI A v0 11 24).bind fun x34 => if x34 = 0 then (gI A v0 11 26).bind fun x94 => if x94 ≤ 0 then b_X11_rules_122 N A v0 v1 else (gI A v0 11 26).bind fun x97 => (pF A v0 11 24 (LI x97)).bind fun A99 => (gI A99 v0 11 27).bind fun x101 => (pF A99 v0 11 25 (LI x101)).bind fun A103 => b_X11_rules_122 N A103 v0 v1 else b_X11_rules_122 N A v0 v1
set_option maxRecDepth 4000 in
theorem wb_X11_rules_92 {g : GG} {n0 z0 : Nat} (N : Nat) {A : LH} {v0 : Option Nat} {v1 : Int32} {p : Int32 × LH} (h : b_X11_rules_92 N A v0 v1 = some p) : V g m_X11_rules 50 n0 z0 (some (LI p.1)) p.2 A 92 [some (LR v0), some (LI v1)] [] := by
  unfold b_X11_rules_92 at h
  refine V.aload_n dX11_rules_92 rfl rfl ?_
  obtain ⟨x34, h35, h⟩ := bnd h
  refine V.getF (gI_F h35) CF11 (Nat.le_of_ble_eq_true rfl) fl_RX11_135 dX11_rules_93 ?_
  refine V.if_ne (tgt := 122) dX11_rules_96 (by decide) (fun c36 => ?_) (fun c36 => ?_)
  · have h := (if_neg c36).symm.trans h
    refine V.weak [true, true] ?_
    exact wb_X11_rules_122 N h
  · have h := (if_pos c36).symm.trans h
    refine V.aload_n dX11_rules_99 rfl rfl ?_
    obtain ⟨x94, h95, h⟩ := bnd h
    refine V.getF (gI_F h95) CF11 (Nat.le_of_ble_eq_true rfl) fl_RX11_138 dX11_rules_100 ?_
    refine V.if_le (tgt := 122) dX11_rules_103 (by decide) (fun c96 => ?_) (fun c96 => ?_)
    · have h := (if_pos c96).symm.trans h
      refine V.weak [true, true] ?_
      exact wb_X11_rules_122 N h
    · have h := (if_neg c96).symm.trans h
      refine V.aload_n dX11_rules_106 rfl rfl ?_
      refine V.aload_n dX11_rules_107 rfl rfl ?_
      obtain ⟨x97, h98, h⟩ := bnd h
      refine V.getF (gI_F h98) CF11 (Nat.le_of_ble_eq_true rfl) fl_RX11_138 dX11_rules_108 ?_
      obtain ⟨A99, h100, h⟩ := bnd h
      refine V.putF h100 rfl rfl rfl CF11 (Nat.le_of_ble_eq_true rfl) fl_RX11_135 dX11_rules_111 ?_
      refine V.aload_n dX11_rules_114 rfl rfl ?_
      refine V.aload_n dX11_rules_115 rfl rfl ?_
      obtain ⟨x101, h102, h⟩ := bnd h
      refine V.getF (gI_F h102) CF11 (Nat.le_of_ble_eq_true rfl) fl_RX11_141 dX11_rules_116 ?_
      obtain ⟨A103, h104, h⟩ := bnd h
      refine V.putF h104 rfl rfl rfl CF11 (Nat.le_of_ble_eq_true rfl) fl_RX11_59 dX11_rules_119 ?_
      refine V.weak [true, true] ?_
      exact wb_X11_rules_122 N h
def b_X11_rules_73 (N : Nat) (k73 : LH → Option Nat → Int32 → Int32 → Option (Int32 × LH)) (A : LH) (v0 : Option Nat) (v1 : Int32) (v2 : Int32) : Option (Int32 × LH) :=
  if v2 = 0 then b_X11_rules_92 N A v0 v1 else (gI A v0 11 21).bind fun x105 => if x105 = 0 then b_X11_rules_92 N A v0 v1 else (f_X11_oneLine N A v0).bind fun p108 => k73 p108.2 v0 v1 p108.1
set_option maxRecDepth 4000 in
theorem wb_X11_rules_73 {g : GG} {n0 z0 : Nat} (N : Nat) {k73 : LH → Option Nat → Int32 → Int32 → Option (Int32 × LH)} {A : LH} {v0 : Option Nat} {v1 : Int32} {v2 : Int32} {p : Int32 × LH} (hk73 : ∀ {A : LH} {v0 : Option Nat} {v1 : Int32} {v2 : Int32} {p : Int32 × LH}, k73 A v0 v1 v2 = some p → V g m_X11_rules 50 n0 z0 (some (LI p.1)) p.2 A 73 [some (LR v0), some (LI v1), some (LI v2)] []) (h : b_X11_rules_73 N k73 A v0 v1 v2 = some p) : V g m_X11_rules 50 n0 z0 (some (LI p.1)) p.2 A 73 [some (LR v0), some (LI v1), some (LI v2)] [] := by
  unfold b_X11_rules_73 at h
  refine V.iload_n dX11_rules_73 rfl rfl ?_
  refine V.if_eq (tgt := 92) dX11_rules_74 (by decide) (fun c33 => ?_) (fun c33 => ?_)
  · have h := (if_pos c33).symm.trans h
    refine V.weak [true, true] ?_
    exact wb_X11_rules_92 N h
  · have h := (if_neg c33).symm.trans h
    refine V.aload_n dX11_rules_77 rfl rfl ?_
    obtain ⟨x105, h106, h⟩ := bnd h
    refine V.getF (gI_F h106) CF11 (Nat.le_of_ble_eq_true rfl) fl_RX11_132 dX11_rules_78 ?_
    refine V.if_eq (tgt := 92) dX11_rules_81 (by decide) (fun c107 => ?_) (fun c107 => ?_)
    · have h := (if_pos c107).symm.trans h
      refine V.weak [true, true] ?_
      exact wb_X11_rules_92 N h
    · have h := (if_neg c107).symm.trans h
      refine V.aload_n dX11_rules_84 rfl rfl ?_
      obtain ⟨p108, h109, h⟩ := bnd h
      have w110 := w_X11_oneLine (g := g) N h109
      refine V.callVi (args := []) (st := []) w110.1 (oo_X11_oneLine h109) mk_X11_oneLine w110.2 vc_11 ml_RX11_265 im_X11_oneLine se_X11_oneLine rfl (Nat.le_of_ble_eq_true rfl) (by decide) rfl (Nat.le_of_ble_eq_true rfl) dX11_rules_85 ?_
      refine V.istore_n (ls' := [some (LR v0), some (LI v1), some (LI p108.1)]) dX11_rules_88 rfl (by decide) rfl rfl ?_
      refine V.goto (tgt := 73) dX11_rules_89 (by decide) ?_
      refine V.weak [true, true, true] ?_
      exact hk73 h
def l_X11_rules_73 (N : Nat) : Nat → LH → Option Nat → Int32 → Int32 → Option (Int32 × LH)
  | 0, _, _, _, _ => none
  | n + 1, A, v0, v1, v2 => b_X11_rules_73 N (l_X11_rules_73 N n) A v0 v1 v2
theorem wl_X11_rules_73 {g : GG} {n0 z0 : Nat} (N : Nat) : ∀ (n : Nat) {A : LH} {v0 : Option Nat} {v1 : Int32} {v2 : Int32} {p : Int32 × LH}, l_X11_rules_73 N n A v0 v1 v2 = some p → V g m_X11_rules 50 n0 z0 (some (LI p.1)) p.2 A 73 [some (LR v0), some (LI v1), some (LI v2)] []
  | 0, _, _, _, _, _, h => nomatch h
  | n + 1, _, _, _, _, _, h => wb_X11_rules_73 N (wl_X11_rules_73 N n) h
def b_X11_rules (N : Nat) (A : LH) (v0 : Option Nat) (v1 : Int32) : Option (Int32 × LH) :=
  (pF A v0 11 0 (LI (0 : Int32))).bind fun A1 => (f_X11_isSlot A1 v0 v1).bind fun p3 => if p3 = 0 then some ((-2 : Int32), A1) else (gI A1 v0 11 2).bind fun x7 => (pF A1 v0 11 19 (LI x7)).bind fun A9 => (pF A9 v0 11 2 (LI (0 : Int32))).bind fun A11 => (pF A11 v0 11 18 (LI (0 : Int32))).bind fun A13 => (pF A13 v0 11 24 (LI (0 : Int32))).bind fun A15 => (pF A15 v0 11 25 (LI (-1 : Int32))).bind fun A17 => (pF A17 v0 11 26 (LI (0 : Int32))).bind fun A19 => (pF A19 v0 11 28 (LI (0 : Int32))).bind fun A21 => (pF A21 v0 11 31 (LI (0 : Int32))).bind fun A23 => (pF A23 v0 11 30 (LI (0 : Int32))).bind fun A25 => (f_X11_next N A25 v0).bind fun p27 => (f_X11_beginning N p27 v0).bind fun p30 => l_X11_rules_73 N N p30.2 v0 v1 p30.1
set_option maxRecDepth 4000 in
theorem wb_X11_rules {g : GG} {n0 z0 : Nat} (N : Nat) {A : LH} {v0 : Option Nat} {v1 : Int32} {p : Int32 × LH} (h : b_X11_rules N A v0 v1 = some p) : V g m_X11_rules 50 n0 z0 (some (LI p.1)) p.2 A 0 [some (LR v0), some (LI v1)] [] := by
  unfold b_X11_rules at h
  refine V.aload_n dX11_rules_0 rfl rfl ?_
  refine V.iconst dX11_rules_1 ki_0 ?_
  obtain ⟨A1, h2, h⟩ := bnd h
  refine V.putF h2 rfl rfl rfl CF11 (Nat.le_of_ble_eq_true rfl) fl_RX11_94 dX11_rules_2 ?_
  refine V.aload_n dX11_rules_5 rfl rfl ?_
  refine V.iload_n dX11_rules_6 rfl rfl ?_
  obtain ⟨p3, h4, h⟩ := bnd h
  have w5 := w_X11_isSlot (g := g) h4
  refine V.callVi (args := [LI v1]) (st := []) w5.1 (oo_X11_isSlot h4) mk_X11_isSlot w5.2 vc_11 ml_RX11_259 im_X11_isSlot se_X11_isSlot rfl (Nat.le_of_ble_eq_true rfl) (by decide) rfl (Nat.le_of_ble_eq_true rfl) dX11_rules_7 ?_
  refine V.if_ne (tgt := 16) dX11_rules_10 (by decide) (fun c6 => ?_) (fun c6 => ?_)
  · have h := (if_neg c6).symm.trans h
    refine V.aload_n dX11_rules_16 rfl rfl ?_
    refine V.aload_n dX11_rules_17 rfl rfl ?_
    obtain ⟨x7, h8, h⟩ := bnd h
    refine V.getF (gI_F h8) CF11 (Nat.le_of_ble_eq_true rfl) fl_RX11_101 dX11_rules_18 ?_
    obtain ⟨A9, h10, h⟩ := bnd h
    refine V.putF h10 rfl rfl rfl CF11 (Nat.le_of_ble_eq_true rfl) fl_RX11_115 dX11_rules_21 ?_
    refine V.aload_n dX11_rules_24 rfl rfl ?_
    refine V.iconst dX11_rules_25 ki_0 ?_
    obtain ⟨A11, h12, h⟩ := bnd h
    refine V.putF h12 rfl rfl rfl CF11 (Nat.le_of_ble_eq_true rfl) fl_RX11_101 dX11_rules_26 ?_
    refine V.aload_n dX11_rules_29 rfl rfl ?_
    refine V.iconst dX11_rules_30 ki_0 ?_
    obtain ⟨A13, h14, h⟩ := bnd h
    refine V.putF h14 rfl rfl rfl CF11 (Nat.le_of_ble_eq_true rfl) fl_RX11_112 dX11_rules_31 ?_
    refine V.aload_n dX11_rules_34 rfl rfl ?_
    refine V.iconst dX11_rules_35 ki_0 ?_
    obtain ⟨A15, h16, h⟩ := bnd h
    refine V.putF h16 rfl rfl rfl CF11 (Nat.le_of_ble_eq_true rfl) fl_RX11_135 dX11_rules_36 ?_
    refine V.aload_n dX11_rules_39 rfl rfl ?_
    refine V.iconst dX11_rules_40 ki_m1 ?_
    obtain ⟨A17, h18, h⟩ := bnd h
    refine V.putF h18 rfl rfl rfl CF11 (Nat.le_of_ble_eq_true rfl) fl_RX11_59 dX11_rules_41 ?_
    refine V.aload_n dX11_rules_44 rfl rfl ?_
    refine V.iconst dX11_rules_45 ki_0 ?_
    obtain ⟨A19, h20, h⟩ := bnd h
    refine V.putF h20 rfl rfl rfl CF11 (Nat.le_of_ble_eq_true rfl) fl_RX11_138 dX11_rules_46 ?_
    refine V.aload_n dX11_rules_49 rfl rfl ?_
    refine V.iconst dX11_rules_50 ki_0 ?_
    obtain ⟨A21, h22, h⟩ := bnd h
    refine V.putF h22 rfl rfl rfl CF11 (Nat.le_of_ble_eq_true rfl) fl_RX11_234 dX11_rules_51 ?_
    refine V.aload_n dX11_rules_54 rfl rfl ?_
    refine V.iconst dX11_rules_55 ki_0 ?_
    obtain ⟨A23, h24, h⟩ := bnd h
    refine V.putF h24 rfl rfl rfl CF11 (Nat.le_of_ble_eq_true rfl) fl_RX11_162 dX11_rules_56 ?_
    refine V.aload_n dX11_rules_59 rfl rfl ?_
    refine V.iconst dX11_rules_60 ki_0 ?_
    obtain ⟨A25, h26, h⟩ := bnd h
    refine V.putF h26 rfl rfl rfl CF11 (Nat.le_of_ble_eq_true rfl) fl_RX11_185 dX11_rules_61 ?_
    refine V.aload_n dX11_rules_64 rfl rfl ?_
    obtain ⟨p27, h28, h⟩ := bnd h
    have w29 := w_X11_next (g := g) N h28
    refine V.callVv (args := []) (st := []) w29.1 (oo_X11_next h28) mk_X11_next w29.2 vc_11 ml_RX11_152 im_X11_next se_X11_next rfl (Nat.le_of_ble_eq_true rfl) (by decide) rfl (Nat.le_of_ble_eq_true rfl) dX11_rules_65 ?_
    refine V.aload_n dX11_rules_68 rfl rfl ?_
    obtain ⟨p30, h31, h⟩ := bnd h
    have w32 := w_X11_beginning (g := g) N h31
    refine V.callVi (args := []) (st := []) w32.1 (oo_X11_beginning h31) mk_X11_beginning w32.2 vc_11 ml_RX11_262 im_X11_beginning se_X11_beginning rfl (Nat.le_of_ble_eq_true rfl) (by decide) rfl (Nat.le_of_ble_eq_true rfl) dX11_rules_69 ?_
    refine V.istore_n (ls' := [some (LR v0), some (LI v1), some (LI p30.1)]) dX11_rules_72 rfl (by decide) rfl rfl ?_
    refine V.weak [true, true, true] ?_
    exact wl_X11_rules_73 N N h
  · have h := (if_pos c6).symm.trans h
    refine V.bipush dX11_rules_13 kb_m2 ?_
    obtain rfl := Option.some.inj h
    exact V.ireturn dX11_rules_15
def f_X11_rules (N : Nat) (A : LH) (v0 : Option Nat) (v1 : Int32) : Option (Int32 × LH) := if isO A v0 11 = true then b_X11_rules N A v0 v1 else none
theorem w_X11_rules {g : GG} (N : Nat) {A : LH} {v0 : Option Nat} {v1 : Int32} {p : Int32 × LH} (h : f_X11_rules N A v0 v1 = some p) : Ct g m_X11_rules 50 [LR v0, LI v1] A (some (LI p.1)) p.2 := by
  unfold f_X11_rules at h
  obtain ⟨ho, h⟩ := ifN h
  exact ⟨wb_X11_rules N h, rfl⟩
theorem oo_X11_rules {N : Nat} {A : LH} {v0 : Option Nat} {v1 : Int32} {p : Int32 × LH} (h : f_X11_rules N A v0 v1 = some p) : isO A v0 11 = true := by unfold f_X11_rules at h; exact (ifN h).1
def b_X11_fault (A : LH) (v0 : Option Nat) (v1 : Int32) : Option (Int32 × LH) :=
  (pF A v0 11 0 (LI (0 : Int32))).bind fun A1 => if v1 = 0 then (gI A1 v0 11 24).bind fun x7 => some (x7, A1) else if v1 = (1 : Int32) then (gI A1 v0 11 25).bind fun x5 => some (x5, A1) else some ((-1 : Int32), A1)
set_option maxRecDepth 4000 in
theorem wb_X11_fault {g : GG} {n0 z0 : Nat} {A : LH} {v0 : Option Nat} {v1 : Int32} {p : Int32 × LH} (h : b_X11_fault A v0 v1 = some p) : V g m_X11_fault 0 n0 z0 (some (LI p.1)) p.2 A 0 [some (LR v0), some (LI v1)] [] := by
  unfold b_X11_fault at h
  refine V.aload_n dX11_fault_0 rfl rfl ?_
  refine V.iconst dX11_fault_1 ki_0 ?_
  obtain ⟨A1, h2, h⟩ := bnd h
  refine V.putF h2 rfl rfl rfl CF11 (Nat.le_of_ble_eq_true rfl) fl_RX11_94 dX11_fault_2 ?_
  refine V.iload_n dX11_fault_5 rfl rfl ?_
  refine V.if_ne (tgt := 16) dX11_fault_6 (by decide) (fun c3 => ?_) (fun c3 => ?_)
  · have h := (if_neg c3).symm.trans h
    refine V.iload_n dX11_fault_16 rfl rfl ?_
    refine V.iconst dX11_fault_17 ki_1 ?_
    refine V.icmp_ne (tgt := 28) dX11_fault_18 (by decide) (fun c4 => ?_) (fun c4 => ?_)
    · have h := (if_neg c4).symm.trans h
      refine V.iconst dX11_fault_28 ki_m1 ?_
      obtain rfl := Option.some.inj h
      exact V.ireturn dX11_fault_29
    · have h := (if_pos c4).symm.trans h
      refine V.aload_n dX11_fault_21 rfl rfl ?_
      obtain ⟨x5, h6, h⟩ := bnd h
      refine V.getF (gI_F h6) CF11 (Nat.le_of_ble_eq_true rfl) fl_RX11_59 dX11_fault_22 ?_
      refine V.goto (tgt := 29) dX11_fault_25 (by decide) ?_
      obtain rfl := Option.some.inj h
      exact V.ireturn dX11_fault_29
  · have h := (if_pos c3).symm.trans h
    refine V.aload_n dX11_fault_9 rfl rfl ?_
    obtain ⟨x7, h8, h⟩ := bnd h
    refine V.getF (gI_F h8) CF11 (Nat.le_of_ble_eq_true rfl) fl_RX11_135 dX11_fault_10 ?_
    refine V.goto (tgt := 29) dX11_fault_13 (by decide) ?_
    obtain rfl := Option.some.inj h
    exact V.ireturn dX11_fault_29
def f_X11_fault (A : LH) (v0 : Option Nat) (v1 : Int32) : Option (Int32 × LH) := if isO A v0 11 = true then b_X11_fault A v0 v1 else none
theorem w_X11_fault {g : GG} {A : LH} {v0 : Option Nat} {v1 : Int32} {p : Int32 × LH} (h : f_X11_fault A v0 v1 = some p) : Ct g m_X11_fault 0 [LR v0, LI v1] A (some (LI p.1)) p.2 := by
  unfold f_X11_fault at h
  obtain ⟨ho, h⟩ := ifN h
  exact ⟨wb_X11_fault h, rfl⟩
theorem oo_X11_fault {A : LH} {v0 : Option Nat} {v1 : Int32} {p : Int32 × LH} (h : f_X11_fault A v0 v1 = some p) : isO A v0 11 = true := by unfold f_X11_fault at h; exact (ifN h).1
def b_X11_isPerson (A : LH) (v0 : Option Nat) (v1 : Int32) : Option (Int32) :=
  (gR A v0 11 3).bind fun x1 => (aI A x1 0 (0 : Int32)).bind fun x3 => (f_X11_in v1 (0 : Int32) (x3 - (1 : Int32))).bind fun p5 => some p5
set_option maxRecDepth 4000 in
theorem wb_X11_isPerson {g : GG} {n0 z0 : Nat} {A : LH} {v0 : Option Nat} {v1 : Int32} {p : Int32} (h : b_X11_isPerson A v0 v1 = some p) : V g m_X11_isPerson 1 n0 z0 (some (LI p)) A A 0 [some (LR v0), some (LI v1)] [] := by
  unfold b_X11_isPerson at h
  refine V.iload_n dX11_isPerson_0 rfl rfl ?_
  refine V.iconst dX11_isPerson_1 ki_0 ?_
  refine V.aload_n dX11_isPerson_2 rfl rfl ?_
  obtain ⟨x1, h2, h⟩ := bnd h
  refine V.getF (gR_F h2) CF11 (Nat.le_of_ble_eq_true rfl) fl_RX11_13 dX11_isPerson_3 ?_
  refine V.iconst dX11_isPerson_6 ki_0 ?_
  obtain ⟨x3, h4, h⟩ := bnd h
  refine V.iald h4 dX11_isPerson_7 ?_
  refine V.iconst dX11_isPerson_8 ki_1 ?_
  refine V.isub dX11_isPerson_9 ?_
  obtain ⟨p5, h6, h⟩ := bnd h
  have w7 := w_X11_in (g := g) (A := A) h6
  refine V.callSi (args := [LI v1, LI (0 : Int32), LI (x3 - (1 : Int32))]) (st := []) w7.1 mk_X11_in w7.2 ml_RX11_108 sm_X11_in rfl (Nat.le_of_ble_eq_true rfl) (by decide) rfl (Nat.le_of_ble_eq_true rfl) dX11_isPerson_10 ?_
  obtain rfl := Option.some.inj h
  exact V.ireturn dX11_isPerson_13
def f_X11_isPerson (A : LH) (v0 : Option Nat) (v1 : Int32) : Option (Int32) := if isO A v0 11 = true then zd (b_X11_isPerson A v0 v1) else none
theorem w_X11_isPerson {g : GG} {A : LH} {v0 : Option Nat} {v1 : Int32} {p : Int32} (h : f_X11_isPerson A v0 v1 = some p) : Ct g m_X11_isPerson 1 [LR v0, LI v1] A (some (LI p)) A := by
  unfold f_X11_isPerson at h
  obtain ⟨ho, h⟩ := ifN h
  obtain ⟨h, hz⟩ := zd_sp h
  exact ⟨wb_X11_isPerson h, (RTz hz)⟩
theorem oo_X11_isPerson {A : LH} {v0 : Option Nat} {v1 : Int32} {p : Int32} (h : f_X11_isPerson A v0 v1 = some p) : isO A v0 11 = true := by unfold f_X11_isPerson at h; exact (ifN h).1
def b_X11_isThing (A : LH) (v0 : Option Nat) (v1 : Int32) : Option (Int32) :=
  (gR A v0 11 6).bind fun x1 => (aI A x1 0 (0 : Int32)).bind fun x3 => (f_X11_in v1 (0 : Int32) (x3 - (1 : Int32))).bind fun p5 => some p5
set_option maxRecDepth 4000 in
theorem wb_X11_isThing {g : GG} {n0 z0 : Nat} {A : LH} {v0 : Option Nat} {v1 : Int32} {p : Int32} (h : b_X11_isThing A v0 v1 = some p) : V g m_X11_isThing 1 n0 z0 (some (LI p)) A A 0 [some (LR v0), some (LI v1)] [] := by
  unfold b_X11_isThing at h
  refine V.iload_n dX11_isThing_0 rfl rfl ?_
  refine V.iconst dX11_isThing_1 ki_0 ?_
  refine V.aload_n dX11_isThing_2 rfl rfl ?_
  obtain ⟨x1, h2, h⟩ := bnd h
  refine V.getF (gR_F h2) CF11 (Nat.le_of_ble_eq_true rfl) fl_RX11_23 dX11_isThing_3 ?_
  refine V.iconst dX11_isThing_6 ki_0 ?_
  obtain ⟨x3, h4, h⟩ := bnd h
  refine V.iald h4 dX11_isThing_7 ?_
  refine V.iconst dX11_isThing_8 ki_1 ?_
  refine V.isub dX11_isThing_9 ?_
  obtain ⟨p5, h6, h⟩ := bnd h
  have w7 := w_X11_in (g := g) (A := A) h6
  refine V.callSi (args := [LI v1, LI (0 : Int32), LI (x3 - (1 : Int32))]) (st := []) w7.1 mk_X11_in w7.2 ml_RX11_108 sm_X11_in rfl (Nat.le_of_ble_eq_true rfl) (by decide) rfl (Nat.le_of_ble_eq_true rfl) dX11_isThing_10 ?_
  obtain rfl := Option.some.inj h
  exact V.ireturn dX11_isThing_13
def f_X11_isThing (A : LH) (v0 : Option Nat) (v1 : Int32) : Option (Int32) := if isO A v0 11 = true then zd (b_X11_isThing A v0 v1) else none
theorem w_X11_isThing {g : GG} {A : LH} {v0 : Option Nat} {v1 : Int32} {p : Int32} (h : f_X11_isThing A v0 v1 = some p) : Ct g m_X11_isThing 1 [LR v0, LI v1] A (some (LI p)) A := by
  unfold f_X11_isThing at h
  obtain ⟨ho, h⟩ := ifN h
  obtain ⟨h, hz⟩ := zd_sp h
  exact ⟨wb_X11_isThing h, (RTz hz)⟩
theorem oo_X11_isThing {A : LH} {v0 : Option Nat} {v1 : Int32} {p : Int32} (h : f_X11_isThing A v0 v1 = some p) : isO A v0 11 = true := by unfold f_X11_isThing at h; exact (ifN h).1
def b_X11_isLine (A : LH) (v0 : Option Nat) (v1 : Int32) (v2 : Int32) : Option (Int32) :=
  (f_X11_isSlot A v0 v1).bind fun p1 => if p1 = 0 then some (0 : Int32) else (gR A v0 11 14).bind fun x5 => (aI A x5 0 v1).bind fun x7 => (f_X11_in v2 (0 : Int32) (x7 - (1 : Int32))).bind fun p9 => if p9 = 0 then some (0 : Int32) else some (1 : Int32)
set_option maxRecDepth 4000 in
theorem wb_X11_isLine {g : GG} {n0 z0 : Nat} {A : LH} {v0 : Option Nat} {v1 : Int32} {v2 : Int32} {p : Int32} (h : b_X11_isLine A v0 v1 v2 = some p) : V g m_X11_isLine 2 n0 z0 (some (LI p)) A A 0 [some (LR v0), some (LI v1), some (LI v2)] [] := by
  unfold b_X11_isLine at h
  refine V.aload_n dX11_isLine_0 rfl rfl ?_
  refine V.iload_n dX11_isLine_1 rfl rfl ?_
  obtain ⟨p1, h2, h⟩ := bnd h
  have w3 := w_X11_isSlot (g := g) h2
  refine V.callVi (args := [LI v1]) (st := []) w3.1 (oo_X11_isSlot h2) mk_X11_isSlot w3.2 vc_11 ml_RX11_259 im_X11_isSlot se_X11_isSlot rfl (Nat.le_of_ble_eq_true rfl) (by decide) rfl (Nat.le_of_ble_eq_true rfl) dX11_isLine_2 ?_
  refine V.if_eq (tgt := 28) dX11_isLine_5 (by decide) (fun c4 => ?_) (fun c4 => ?_)
  · have h := (if_pos c4).symm.trans h
    refine V.iconst dX11_isLine_28 ki_0 ?_
    obtain rfl := Option.some.inj h
    exact V.ireturn dX11_isLine_29
  · have h := (if_neg c4).symm.trans h
    refine V.iload_n dX11_isLine_8 rfl rfl ?_
    refine V.iconst dX11_isLine_9 ki_0 ?_
    refine V.aload_n dX11_isLine_10 rfl rfl ?_
    obtain ⟨x5, h6, h⟩ := bnd h
    refine V.getF (gR_F h6) CF11 (Nat.le_of_ble_eq_true rfl) fl_RX11_47 dX11_isLine_11 ?_
    refine V.iload_n dX11_isLine_14 rfl rfl ?_
    obtain ⟨x7, h8, h⟩ := bnd h
    refine V.iald h8 dX11_isLine_15 ?_
    refine V.iconst dX11_isLine_16 ki_1 ?_
    refine V.isub dX11_isLine_17 ?_
    obtain ⟨p9, h10, h⟩ := bnd h
    have w11 := w_X11_in (g := g) (A := A) h10
    refine V.callSi (args := [LI v2, LI (0 : Int32), LI (x7 - (1 : Int32))]) (st := []) w11.1 mk_X11_in w11.2 ml_RX11_108 sm_X11_in rfl (Nat.le_of_ble_eq_true rfl) (by decide) rfl (Nat.le_of_ble_eq_true rfl) dX11_isLine_18 ?_
    refine V.if_eq (tgt := 28) dX11_isLine_21 (by decide) (fun c12 => ?_) (fun c12 => ?_)
    · have h := (if_pos c12).symm.trans h
      refine V.iconst dX11_isLine_28 ki_0 ?_
      obtain rfl := Option.some.inj h
      exact V.ireturn dX11_isLine_29
    · have h := (if_neg c12).symm.trans h
      refine V.iconst dX11_isLine_24 ki_1 ?_
      refine V.goto (tgt := 29) dX11_isLine_25 (by decide) ?_
      obtain rfl := Option.some.inj h
      exact V.ireturn dX11_isLine_29
def f_X11_isLine (A : LH) (v0 : Option Nat) (v1 : Int32) (v2 : Int32) : Option (Int32) := if isO A v0 11 = true then zd (b_X11_isLine A v0 v1 v2) else none
theorem w_X11_isLine {g : GG} {A : LH} {v0 : Option Nat} {v1 : Int32} {v2 : Int32} {p : Int32} (h : f_X11_isLine A v0 v1 v2 = some p) : Ct g m_X11_isLine 2 [LR v0, LI v1, LI v2] A (some (LI p)) A := by
  unfold f_X11_isLine at h
  obtain ⟨ho, h⟩ := ifN h
  obtain ⟨h, hz⟩ := zd_sp h
  exact ⟨wb_X11_isLine h, (RTz hz)⟩
theorem oo_X11_isLine {A : LH} {v0 : Option Nat} {v1 : Int32} {v2 : Int32} {p : Int32} (h : f_X11_isLine A v0 v1 v2 = some p) : isO A v0 11 = true := by unfold f_X11_isLine at h; exact (ifN h).1
def b_X11_person (A : LH) (v0 : Option Nat) (v1 : Int32) (v2 : Int32) : Option (Int32 × LH) :=
  (pF A v0 11 0 (LI (0 : Int32))).bind fun A1 => (gR A1 v0 11 3).bind fun x3 => (aI A1 x3 0 (0 : Int32)).bind fun x5 => if x5 = (16 : Int32) then some ((-1 : Int32), A1) else (f_X11_in v1 (0 : Int32) (255 : Int32)).bind fun p8 => if p8 = 0 then some ((-1 : Int32), A1) else (f_X11_in v2 (0 : Int32) (5 : Int32)).bind fun p12 => if p12 = 0 then some ((-1 : Int32), A1) else (gR A1 v0 11 4).bind fun x16 => (gR A1 v0 11 3).bind fun x18 => (aI A1 x18 0 (0 : Int32)).bind fun x20 => (sI A1 x16 0 x20 v1).bind fun A22 => (gR A22 v0 11 5).bind fun x24 => (gR A22 v0 11 3).bind fun x26 => (aI A22 x26 0 (0 : Int32)).bind fun x28 => (sI A22 x24 0 x28 v2).bind fun A30 => (gR A30 v0 11 3).bind fun x32 => (aI A30 x32 0 (0 : Int32)).bind fun x34 => (sI A30 x32 0 (0 : Int32) (x34 + (1 : Int32))).bind fun A36 => (gR A36 v0 11 3).bind fun x38 => (aI A36 x38 0 (0 : Int32)).bind fun x40 => some ((x40 - (1 : Int32)), A36)
set_option maxRecDepth 4000 in
theorem wb_X11_person {g : GG} {n0 z0 : Nat} {A : LH} {v0 : Option Nat} {v1 : Int32} {v2 : Int32} {p : Int32 × LH} (h : b_X11_person A v0 v1 v2 = some p) : V g m_X11_person 1 n0 z0 (some (LI p.1)) p.2 A 0 [some (LR v0), some (LI v1), some (LI v2)] [] := by
  unfold b_X11_person at h
  refine V.aload_n dX11_person_0 rfl rfl ?_
  refine V.iconst dX11_person_1 ki_0 ?_
  obtain ⟨A1, h2, h⟩ := bnd h
  refine V.putF h2 rfl rfl rfl CF11 (Nat.le_of_ble_eq_true rfl) fl_RX11_94 dX11_person_2 ?_
  refine V.aload_n dX11_person_5 rfl rfl ?_
  obtain ⟨x3, h4, h⟩ := bnd h
  refine V.getF (gR_F h4) CF11 (Nat.le_of_ble_eq_true rfl) fl_RX11_13 dX11_person_6 ?_
  refine V.iconst dX11_person_9 ki_0 ?_
  obtain ⟨x5, h6, h⟩ := bnd h
  refine V.iald h6 dX11_person_10 ?_
  refine V.bipush dX11_person_11 kb_16 ?_
  refine V.icmp_eq (tgt := 36) dX11_person_13 (by decide) (fun c7 => ?_) (fun c7 => ?_)
  · have h := (if_pos c7).symm.trans h
    refine V.iconst dX11_person_36 ki_m1 ?_
    obtain rfl := Option.some.inj h
    exact V.ireturn dX11_person_37
  · have h := (if_neg c7).symm.trans h
    refine V.iload_n dX11_person_16 rfl rfl ?_
    refine V.iconst dX11_person_17 ki_0 ?_
    refine V.sipush dX11_person_18 ks_255 ?_
    obtain ⟨p8, h9, h⟩ := bnd h
    have w10 := w_X11_in (g := g) (A := A1) h9
    refine V.callSi (args := [LI v1, LI (0 : Int32), LI (255 : Int32)]) (st := []) w10.1 mk_X11_in w10.2 ml_RX11_108 sm_X11_in rfl (Nat.le_of_ble_eq_true rfl) (by decide) rfl (Nat.le_of_ble_eq_true rfl) dX11_person_21 ?_
    refine V.if_eq (tgt := 36) dX11_person_24 (by decide) (fun c11 => ?_) (fun c11 => ?_)
    · have h := (if_pos c11).symm.trans h
      refine V.iconst dX11_person_36 ki_m1 ?_
      obtain rfl := Option.some.inj h
      exact V.ireturn dX11_person_37
    · have h := (if_neg c11).symm.trans h
      refine V.iload_n dX11_person_27 rfl rfl ?_
      refine V.iconst dX11_person_28 ki_0 ?_
      refine V.iconst dX11_person_29 ki_5 ?_
      obtain ⟨p12, h13, h⟩ := bnd h
      have w14 := w_X11_in (g := g) (A := A1) h13
      refine V.callSi (args := [LI v2, LI (0 : Int32), LI (5 : Int32)]) (st := []) w14.1 mk_X11_in w14.2 ml_RX11_108 sm_X11_in rfl (Nat.le_of_ble_eq_true rfl) (by decide) rfl (Nat.le_of_ble_eq_true rfl) dX11_person_30 ?_
      refine V.if_ne (tgt := 38) dX11_person_33 (by decide) (fun c15 => ?_) (fun c15 => ?_)
      · have h := (if_neg c15).symm.trans h
        refine V.aload_n dX11_person_38 rfl rfl ?_
        obtain ⟨x16, h17, h⟩ := bnd h
        refine V.getF (gR_F h17) CF11 (Nat.le_of_ble_eq_true rfl) fl_RX11_17 dX11_person_39 ?_
        refine V.aload_n dX11_person_42 rfl rfl ?_
        obtain ⟨x18, h19, h⟩ := bnd h
        refine V.getF (gR_F h19) CF11 (Nat.le_of_ble_eq_true rfl) fl_RX11_13 dX11_person_43 ?_
        refine V.iconst dX11_person_46 ki_0 ?_
        obtain ⟨x20, h21, h⟩ := bnd h
        refine V.iald h21 dX11_person_47 ?_
        refine V.iload_n dX11_person_48 rfl rfl ?_
        obtain ⟨A22, h23, h⟩ := bnd h
        refine V.iast h23 dX11_person_49 ?_
        refine V.aload_n dX11_person_50 rfl rfl ?_
        obtain ⟨x24, h25, h⟩ := bnd h
        refine V.getF (gR_F h25) CF11 (Nat.le_of_ble_eq_true rfl) fl_RX11_20 dX11_person_51 ?_
        refine V.aload_n dX11_person_54 rfl rfl ?_
        obtain ⟨x26, h27, h⟩ := bnd h
        refine V.getF (gR_F h27) CF11 (Nat.le_of_ble_eq_true rfl) fl_RX11_13 dX11_person_55 ?_
        refine V.iconst dX11_person_58 ki_0 ?_
        obtain ⟨x28, h29, h⟩ := bnd h
        refine V.iald h29 dX11_person_59 ?_
        refine V.iload_n dX11_person_60 rfl rfl ?_
        obtain ⟨A30, h31, h⟩ := bnd h
        refine V.iast h31 dX11_person_61 ?_
        refine V.aload_n dX11_person_62 rfl rfl ?_
        obtain ⟨x32, h33, h⟩ := bnd h
        refine V.getF (gR_F h33) CF11 (Nat.le_of_ble_eq_true rfl) fl_RX11_13 dX11_person_63 ?_
        refine V.iconst dX11_person_66 ki_0 ?_
        refine V.dup2 dX11_person_67 rfl rfl ?_
        obtain ⟨x34, h35, h⟩ := bnd h
        refine V.iald h35 dX11_person_68 ?_
        refine V.iconst dX11_person_69 ki_1 ?_
        refine V.iadd dX11_person_70 ?_
        obtain ⟨A36, h37, h⟩ := bnd h
        refine V.iast h37 dX11_person_71 ?_
        refine V.aload_n dX11_person_72 rfl rfl ?_
        obtain ⟨x38, h39, h⟩ := bnd h
        refine V.getF (gR_F h39) CF11 (Nat.le_of_ble_eq_true rfl) fl_RX11_13 dX11_person_73 ?_
        refine V.iconst dX11_person_76 ki_0 ?_
        obtain ⟨x40, h41, h⟩ := bnd h
        refine V.iald h41 dX11_person_77 ?_
        refine V.iconst dX11_person_78 ki_1 ?_
        refine V.isub dX11_person_79 ?_
        obtain rfl := Option.some.inj h
        exact V.ireturn dX11_person_80
      · have h := (if_pos c15).symm.trans h
        refine V.iconst dX11_person_36 ki_m1 ?_
        obtain rfl := Option.some.inj h
        exact V.ireturn dX11_person_37
def f_X11_person (A : LH) (v0 : Option Nat) (v1 : Int32) (v2 : Int32) : Option (Int32 × LH) := if isO A v0 11 = true then b_X11_person A v0 v1 v2 else none
theorem w_X11_person {g : GG} {A : LH} {v0 : Option Nat} {v1 : Int32} {v2 : Int32} {p : Int32 × LH} (h : f_X11_person A v0 v1 v2 = some p) : Ct g m_X11_person 1 [LR v0, LI v1, LI v2] A (some (LI p.1)) p.2 := by
  unfold f_X11_person at h
  obtain ⟨ho, h⟩ := ifN h
  exact ⟨wb_X11_person h, rfl⟩
theorem oo_X11_person {A : LH} {v0 : Option Nat} {v1 : Int32} {v2 : Int32} {p : Int32 × LH} (h : f_X11_person A v0 v1 v2 = some p) : isO A v0 11 = true := by unfold f_X11_person at h; exact (ifN h).1
def b_X11_thing (A : LH) (v0 : Option Nat) (v1 : Int32) (v2 : Int32) (v3 : Int32) : Option (Int32 × LH) :=
  (pF A v0 11 0 (LI (0 : Int32))).bind fun A1 => (gR A1 v0 11 6).bind fun x3 => (aI A1 x3 0 (0 : Int32)).bind fun x5 => if x5 = (16 : Int32) then some ((-1 : Int32), A1) else (f_X11_in v1 (0 : Int32) (7 : Int32)).bind fun p8 => if p8 = 0 then some ((-1 : Int32), A1) else (f_X11_in v2 (0 : Int32) (5 : Int32)).bind fun p12 => if p12 = 0 then some ((-1 : Int32), A1) else (f_X11_isPerson A1 v0 v3).bind fun p16 => if p16 = 0 then some ((-1 : Int32), A1) else (gR A1 v0 11 7).bind fun x20 => (gR A1 v0 11 6).bind fun x22 => (aI A1 x22 0 (0 : Int32)).bind fun x24 => (sI A1 x20 0 x24 v1).bind fun A26 => (gR A26 v0 11 8).bind fun x28 => (gR A26 v0 11 6).bind fun x30 => (aI A26 x30 0 (0 : Int32)).bind fun x32 => (sI A26 x28 0 x32 v2).bind fun A34 => (gR A34 v0 11 9).bind fun x36 => (gR A34 v0 11 6).bind fun x38 => (aI A34 x38 0 (0 : Int32)).bind fun x40 => (sI A34 x36 0 x40 v3).bind fun A42 => (gR A42 v0 11 6).bind fun x44 => (aI A42 x44 0 (0 : Int32)).bind fun x46 => (sI A42 x44 0 (0 : Int32) (x46 + (1 : Int32))).bind fun A48 => (gR A48 v0 11 6).bind fun x50 => (aI A48 x50 0 (0 : Int32)).bind fun x52 => some ((x52 - (1 : Int32)), A48)
set_option maxRecDepth 4000 in
theorem wb_X11_thing {g : GG} {n0 z0 : Nat} {A : LH} {v0 : Option Nat} {v1 : Int32} {v2 : Int32} {v3 : Int32} {p : Int32 × LH} (h : b_X11_thing A v0 v1 v2 v3 = some p) : V g m_X11_thing 2 n0 z0 (some (LI p.1)) p.2 A 0 [some (LR v0), some (LI v1), some (LI v2), some (LI v3)] [] := by
  unfold b_X11_thing at h
  refine V.aload_n dX11_thing_0 rfl rfl ?_
  refine V.iconst dX11_thing_1 ki_0 ?_
  obtain ⟨A1, h2, h⟩ := bnd h
  refine V.putF h2 rfl rfl rfl CF11 (Nat.le_of_ble_eq_true rfl) fl_RX11_94 dX11_thing_2 ?_
  refine V.aload_n dX11_thing_5 rfl rfl ?_
  obtain ⟨x3, h4, h⟩ := bnd h
  refine V.getF (gR_F h4) CF11 (Nat.le_of_ble_eq_true rfl) fl_RX11_23 dX11_thing_6 ?_
  refine V.iconst dX11_thing_9 ki_0 ?_
  obtain ⟨x5, h6, h⟩ := bnd h
  refine V.iald h6 dX11_thing_10 ?_
  refine V.bipush dX11_thing_11 kb_16 ?_
  refine V.icmp_eq (tgt := 43) dX11_thing_13 (by decide) (fun c7 => ?_) (fun c7 => ?_)
  · have h := (if_pos c7).symm.trans h
    refine V.iconst dX11_thing_43 ki_m1 ?_
    obtain rfl := Option.some.inj h
    exact V.ireturn dX11_thing_44
  · have h := (if_neg c7).symm.trans h
    refine V.iload_n dX11_thing_16 rfl rfl ?_
    refine V.iconst dX11_thing_17 ki_0 ?_
    refine V.bipush dX11_thing_18 kb_7 ?_
    obtain ⟨p8, h9, h⟩ := bnd h
    have w10 := w_X11_in (g := g) (A := A1) h9
    refine V.callSi (args := [LI v1, LI (0 : Int32), LI (7 : Int32)]) (st := []) w10.1 mk_X11_in w10.2 ml_RX11_108 sm_X11_in rfl (Nat.le_of_ble_eq_true rfl) (by decide) rfl (Nat.le_of_ble_eq_true rfl) dX11_thing_20 ?_
    refine V.if_eq (tgt := 43) dX11_thing_23 (by decide) (fun c11 => ?_) (fun c11 => ?_)
    · have h := (if_pos c11).symm.trans h
      refine V.iconst dX11_thing_43 ki_m1 ?_
      obtain rfl := Option.some.inj h
      exact V.ireturn dX11_thing_44
    · have h := (if_neg c11).symm.trans h
      refine V.iload_n dX11_thing_26 rfl rfl ?_
      refine V.iconst dX11_thing_27 ki_0 ?_
      refine V.iconst dX11_thing_28 ki_5 ?_
      obtain ⟨p12, h13, h⟩ := bnd h
      have w14 := w_X11_in (g := g) (A := A1) h13
      refine V.callSi (args := [LI v2, LI (0 : Int32), LI (5 : Int32)]) (st := []) w14.1 mk_X11_in w14.2 ml_RX11_108 sm_X11_in rfl (Nat.le_of_ble_eq_true rfl) (by decide) rfl (Nat.le_of_ble_eq_true rfl) dX11_thing_29 ?_
      refine V.if_eq (tgt := 43) dX11_thing_32 (by decide) (fun c15 => ?_) (fun c15 => ?_)
      · have h := (if_pos c15).symm.trans h
        refine V.iconst dX11_thing_43 ki_m1 ?_
        obtain rfl := Option.some.inj h
        exact V.ireturn dX11_thing_44
      · have h := (if_neg c15).symm.trans h
        refine V.aload_n dX11_thing_35 rfl rfl ?_
        refine V.iload_n dX11_thing_36 rfl rfl ?_
        obtain ⟨p16, h17, h⟩ := bnd h
        have w18 := w_X11_isPerson (g := g) h17
        refine V.callVi (args := [LI v3]) (st := []) w18.1 (oo_X11_isPerson h17) mk_X11_isPerson w18.2 vc_11 ml_RX11_271 im_X11_isPerson se_X11_isPerson rfl (Nat.le_of_ble_eq_true rfl) (by decide) rfl (Nat.le_of_ble_eq_true rfl) dX11_thing_37 ?_
        refine V.if_ne (tgt := 45) dX11_thing_40 (by decide) (fun c19 => ?_) (fun c19 => ?_)
        · have h := (if_neg c19).symm.trans h
          refine V.aload_n dX11_thing_45 rfl rfl ?_
          obtain ⟨x20, h21, h⟩ := bnd h
          refine V.getF (gR_F h21) CF11 (Nat.le_of_ble_eq_true rfl) fl_RX11_26 dX11_thing_46 ?_
          refine V.aload_n dX11_thing_49 rfl rfl ?_
          obtain ⟨x22, h23, h⟩ := bnd h
          refine V.getF (gR_F h23) CF11 (Nat.le_of_ble_eq_true rfl) fl_RX11_23 dX11_thing_50 ?_
          refine V.iconst dX11_thing_53 ki_0 ?_
          obtain ⟨x24, h25, h⟩ := bnd h
          refine V.iald h25 dX11_thing_54 ?_
          refine V.iload_n dX11_thing_55 rfl rfl ?_
          obtain ⟨A26, h27, h⟩ := bnd h
          refine V.iast h27 dX11_thing_56 ?_
          refine V.aload_n dX11_thing_57 rfl rfl ?_
          obtain ⟨x28, h29, h⟩ := bnd h
          refine V.getF (gR_F h29) CF11 (Nat.le_of_ble_eq_true rfl) fl_RX11_29 dX11_thing_58 ?_
          refine V.aload_n dX11_thing_61 rfl rfl ?_
          obtain ⟨x30, h31, h⟩ := bnd h
          refine V.getF (gR_F h31) CF11 (Nat.le_of_ble_eq_true rfl) fl_RX11_23 dX11_thing_62 ?_
          refine V.iconst dX11_thing_65 ki_0 ?_
          obtain ⟨x32, h33, h⟩ := bnd h
          refine V.iald h33 dX11_thing_66 ?_
          refine V.iload_n dX11_thing_67 rfl rfl ?_
          obtain ⟨A34, h35, h⟩ := bnd h
          refine V.iast h35 dX11_thing_68 ?_
          refine V.aload_n dX11_thing_69 rfl rfl ?_
          obtain ⟨x36, h37, h⟩ := bnd h
          refine V.getF (gR_F h37) CF11 (Nat.le_of_ble_eq_true rfl) fl_RX11_32 dX11_thing_70 ?_
          refine V.aload_n dX11_thing_73 rfl rfl ?_
          obtain ⟨x38, h39, h⟩ := bnd h
          refine V.getF (gR_F h39) CF11 (Nat.le_of_ble_eq_true rfl) fl_RX11_23 dX11_thing_74 ?_
          refine V.iconst dX11_thing_77 ki_0 ?_
          obtain ⟨x40, h41, h⟩ := bnd h
          refine V.iald h41 dX11_thing_78 ?_
          refine V.iload_n dX11_thing_79 rfl rfl ?_
          obtain ⟨A42, h43, h⟩ := bnd h
          refine V.iast h43 dX11_thing_80 ?_
          refine V.aload_n dX11_thing_81 rfl rfl ?_
          obtain ⟨x44, h45, h⟩ := bnd h
          refine V.getF (gR_F h45) CF11 (Nat.le_of_ble_eq_true rfl) fl_RX11_23 dX11_thing_82 ?_
          refine V.iconst dX11_thing_85 ki_0 ?_
          refine V.dup2 dX11_thing_86 rfl rfl ?_
          obtain ⟨x46, h47, h⟩ := bnd h
          refine V.iald h47 dX11_thing_87 ?_
          refine V.iconst dX11_thing_88 ki_1 ?_
          refine V.iadd dX11_thing_89 ?_
          obtain ⟨A48, h49, h⟩ := bnd h
          refine V.iast h49 dX11_thing_90 ?_
          refine V.aload_n dX11_thing_91 rfl rfl ?_
          obtain ⟨x50, h51, h⟩ := bnd h
          refine V.getF (gR_F h51) CF11 (Nat.le_of_ble_eq_true rfl) fl_RX11_23 dX11_thing_92 ?_
          refine V.iconst dX11_thing_95 ki_0 ?_
          obtain ⟨x52, h53, h⟩ := bnd h
          refine V.iald h53 dX11_thing_96 ?_
          refine V.iconst dX11_thing_97 ki_1 ?_
          refine V.isub dX11_thing_98 ?_
          obtain rfl := Option.some.inj h
          exact V.ireturn dX11_thing_99
        · have h := (if_pos c19).symm.trans h
          refine V.iconst dX11_thing_43 ki_m1 ?_
          obtain rfl := Option.some.inj h
          exact V.ireturn dX11_thing_44
def f_X11_thing (A : LH) (v0 : Option Nat) (v1 : Int32) (v2 : Int32) (v3 : Int32) : Option (Int32 × LH) := if isO A v0 11 = true then b_X11_thing A v0 v1 v2 v3 else none
theorem w_X11_thing {g : GG} {A : LH} {v0 : Option Nat} {v1 : Int32} {v2 : Int32} {v3 : Int32} {p : Int32 × LH} (h : f_X11_thing A v0 v1 v2 v3 = some p) : Ct g m_X11_thing 2 [LR v0, LI v1, LI v2, LI v3] A (some (LI p.1)) p.2 := by
  unfold f_X11_thing at h
  obtain ⟨ho, h⟩ := ifN h
  exact ⟨wb_X11_thing h, rfl⟩
theorem oo_X11_thing {A : LH} {v0 : Option Nat} {v1 : Int32} {v2 : Int32} {v3 : Int32} {p : Int32 × LH} (h : f_X11_thing A v0 v1 v2 v3 = some p) : isO A v0 11 = true := by unfold f_X11_thing at h; exact (ifN h).1
def b_X11_moves (A : LH) (v0 : Option Nat) (v1 : Int32) (v2 : Int32) (v3 : Int32) : Option (Int32 × LH) :=
  (pF A v0 11 0 (LI (0 : Int32))).bind fun A1 => (f_X11_isPerson A1 v0 v1).bind fun p3 => if p3 = 0 then some ((0 : Int32), A1) else (f_X11_in v2 (0 : Int32) (255 : Int32)).bind fun p7 => if p7 = 0 then some ((0 : Int32), A1) else (f_X11_in v3 (0 : Int32) (5 : Int32)).bind fun p11 => if p11 = 0 then some ((0 : Int32), A1) else (gR A1 v0 11 4).bind fun x15 => (sI A1 x15 0 v1 v2).bind fun A17 => (gR A17 v0 11 5).bind fun x19 => (sI A17 x19 0 v1 v3).bind fun A21 => some ((1 : Int32), A21)
set_option maxRecDepth 4000 in
theorem wb_X11_moves {g : GG} {n0 z0 : Nat} {A : LH} {v0 : Option Nat} {v1 : Int32} {v2 : Int32} {v3 : Int32} {p : Int32 × LH} (h : b_X11_moves A v0 v1 v2 v3 = some p) : V g m_X11_moves 2 n0 z0 (some (LI p.1)) p.2 A 0 [some (LR v0), some (LI v1), some (LI v2), some (LI v3)] [] := by
  unfold b_X11_moves at h
  refine V.aload_n dX11_moves_0 rfl rfl ?_
  refine V.iconst dX11_moves_1 ki_0 ?_
  obtain ⟨A1, h2, h⟩ := bnd h
  refine V.putF h2 rfl rfl rfl CF11 (Nat.le_of_ble_eq_true rfl) fl_RX11_94 dX11_moves_2 ?_
  refine V.aload_n dX11_moves_5 rfl rfl ?_
  refine V.iload_n dX11_moves_6 rfl rfl ?_
  obtain ⟨p3, h4, h⟩ := bnd h
  have w5 := w_X11_isPerson (g := g) h4
  refine V.callVi (args := [LI v1]) (st := []) w5.1 (oo_X11_isPerson h4) mk_X11_isPerson w5.2 vc_11 ml_RX11_271 im_X11_isPerson se_X11_isPerson rfl (Nat.le_of_ble_eq_true rfl) (by decide) rfl (Nat.le_of_ble_eq_true rfl) dX11_moves_7 ?_
  refine V.if_eq (tgt := 33) dX11_moves_10 (by decide) (fun c6 => ?_) (fun c6 => ?_)
  · have h := (if_pos c6).symm.trans h
    refine V.iconst dX11_moves_33 ki_0 ?_
    obtain rfl := Option.some.inj h
    exact V.ireturn dX11_moves_34
  · have h := (if_neg c6).symm.trans h
    refine V.iload_n dX11_moves_13 rfl rfl ?_
    refine V.iconst dX11_moves_14 ki_0 ?_
    refine V.sipush dX11_moves_15 ks_255 ?_
    obtain ⟨p7, h8, h⟩ := bnd h
    have w9 := w_X11_in (g := g) (A := A1) h8
    refine V.callSi (args := [LI v2, LI (0 : Int32), LI (255 : Int32)]) (st := []) w9.1 mk_X11_in w9.2 ml_RX11_108 sm_X11_in rfl (Nat.le_of_ble_eq_true rfl) (by decide) rfl (Nat.le_of_ble_eq_true rfl) dX11_moves_18 ?_
    refine V.if_eq (tgt := 33) dX11_moves_21 (by decide) (fun c10 => ?_) (fun c10 => ?_)
    · have h := (if_pos c10).symm.trans h
      refine V.iconst dX11_moves_33 ki_0 ?_
      obtain rfl := Option.some.inj h
      exact V.ireturn dX11_moves_34
    · have h := (if_neg c10).symm.trans h
      refine V.iload_n dX11_moves_24 rfl rfl ?_
      refine V.iconst dX11_moves_25 ki_0 ?_
      refine V.iconst dX11_moves_26 ki_5 ?_
      obtain ⟨p11, h12, h⟩ := bnd h
      have w13 := w_X11_in (g := g) (A := A1) h12
      refine V.callSi (args := [LI v3, LI (0 : Int32), LI (5 : Int32)]) (st := []) w13.1 mk_X11_in w13.2 ml_RX11_108 sm_X11_in rfl (Nat.le_of_ble_eq_true rfl) (by decide) rfl (Nat.le_of_ble_eq_true rfl) dX11_moves_27 ?_
      refine V.if_ne (tgt := 35) dX11_moves_30 (by decide) (fun c14 => ?_) (fun c14 => ?_)
      · have h := (if_neg c14).symm.trans h
        refine V.aload_n dX11_moves_35 rfl rfl ?_
        obtain ⟨x15, h16, h⟩ := bnd h
        refine V.getF (gR_F h16) CF11 (Nat.le_of_ble_eq_true rfl) fl_RX11_17 dX11_moves_36 ?_
        refine V.iload_n dX11_moves_39 rfl rfl ?_
        refine V.iload_n dX11_moves_40 rfl rfl ?_
        obtain ⟨A17, h18, h⟩ := bnd h
        refine V.iast h18 dX11_moves_41 ?_
        refine V.aload_n dX11_moves_42 rfl rfl ?_
        obtain ⟨x19, h20, h⟩ := bnd h
        refine V.getF (gR_F h20) CF11 (Nat.le_of_ble_eq_true rfl) fl_RX11_20 dX11_moves_43 ?_
        refine V.iload_n dX11_moves_46 rfl rfl ?_
        refine V.iload_n dX11_moves_47 rfl rfl ?_
        obtain ⟨A21, h22, h⟩ := bnd h
        refine V.iast h22 dX11_moves_48 ?_
        refine V.iconst dX11_moves_49 ki_1 ?_
        obtain rfl := Option.some.inj h
        exact V.ireturn dX11_moves_50
      · have h := (if_pos c14).symm.trans h
        refine V.iconst dX11_moves_33 ki_0 ?_
        obtain rfl := Option.some.inj h
        exact V.ireturn dX11_moves_34
def f_X11_moves (A : LH) (v0 : Option Nat) (v1 : Int32) (v2 : Int32) (v3 : Int32) : Option (Int32 × LH) := if isO A v0 11 = true then zc (b_X11_moves A v0 v1 v2 v3) else none
theorem w_X11_moves {g : GG} {A : LH} {v0 : Option Nat} {v1 : Int32} {v2 : Int32} {v3 : Int32} {p : Int32 × LH} (h : f_X11_moves A v0 v1 v2 v3 = some p) : Ct g m_X11_moves 2 [LR v0, LI v1, LI v2, LI v3] A (some (LI p.1)) p.2 := by
  unfold f_X11_moves at h
  obtain ⟨ho, h⟩ := ifN h
  obtain ⟨h, hz⟩ := zc_sp h
  exact ⟨wb_X11_moves h, (RTz hz)⟩
theorem oo_X11_moves {A : LH} {v0 : Option Nat} {v1 : Int32} {v2 : Int32} {v3 : Int32} {p : Int32 × LH} (h : f_X11_moves A v0 v1 v2 v3 = some p) : isO A v0 11 = true := by unfold f_X11_moves at h; exact (ifN h).1
def b_X11_gives (A : LH) (v0 : Option Nat) (v1 : Int32) (v2 : Int32) (v3 : Int32) : Option (Int32 × LH) :=
  (pF A v0 11 0 (LI (0 : Int32))).bind fun A1 => (f_X11_isThing A1 v0 v1).bind fun p3 => if p3 = 0 then some ((0 : Int32), A1) else (f_X11_isPerson A1 v0 v2).bind fun p7 => if p7 = 0 then some ((0 : Int32), A1) else (f_X11_in v3 (0 : Int32) (5 : Int32)).bind fun p11 => if p11 = 0 then some ((0 : Int32), A1) else (gR A1 v0 11 9).bind fun x15 => (sI A1 x15 0 v1 v2).bind fun A17 => (gR A17 v0 11 8).bind fun x19 => (sI A17 x19 0 v1 v3).bind fun A21 => some ((1 : Int32), A21)
set_option maxRecDepth 4000 in
theorem wb_X11_gives {g : GG} {n0 z0 : Nat} {A : LH} {v0 : Option Nat} {v1 : Int32} {v2 : Int32} {v3 : Int32} {p : Int32 × LH} (h : b_X11_gives A v0 v1 v2 v3 = some p) : V g m_X11_gives 2 n0 z0 (some (LI p.1)) p.2 A 0 [some (LR v0), some (LI v1), some (LI v2), some (LI v3)] [] := by
  unfold b_X11_gives at h
  refine V.aload_n dX11_gives_0 rfl rfl ?_
  refine V.iconst dX11_gives_1 ki_0 ?_
  obtain ⟨A1, h2, h⟩ := bnd h
  refine V.putF h2 rfl rfl rfl CF11 (Nat.le_of_ble_eq_true rfl) fl_RX11_94 dX11_gives_2 ?_
  refine V.aload_n dX11_gives_5 rfl rfl ?_
  refine V.iload_n dX11_gives_6 rfl rfl ?_
  obtain ⟨p3, h4, h⟩ := bnd h
  have w5 := w_X11_isThing (g := g) h4
  refine V.callVi (args := [LI v1]) (st := []) w5.1 (oo_X11_isThing h4) mk_X11_isThing w5.2 vc_11 ml_RX11_274 im_X11_isThing se_X11_isThing rfl (Nat.le_of_ble_eq_true rfl) (by decide) rfl (Nat.le_of_ble_eq_true rfl) dX11_gives_7 ?_
  refine V.if_eq (tgt := 30) dX11_gives_10 (by decide) (fun c6 => ?_) (fun c6 => ?_)
  · have h := (if_pos c6).symm.trans h
    refine V.iconst dX11_gives_30 ki_0 ?_
    obtain rfl := Option.some.inj h
    exact V.ireturn dX11_gives_31
  · have h := (if_neg c6).symm.trans h
    refine V.aload_n dX11_gives_13 rfl rfl ?_
    refine V.iload_n dX11_gives_14 rfl rfl ?_
    obtain ⟨p7, h8, h⟩ := bnd h
    have w9 := w_X11_isPerson (g := g) h8
    refine V.callVi (args := [LI v2]) (st := []) w9.1 (oo_X11_isPerson h8) mk_X11_isPerson w9.2 vc_11 ml_RX11_271 im_X11_isPerson se_X11_isPerson rfl (Nat.le_of_ble_eq_true rfl) (by decide) rfl (Nat.le_of_ble_eq_true rfl) dX11_gives_15 ?_
    refine V.if_eq (tgt := 30) dX11_gives_18 (by decide) (fun c10 => ?_) (fun c10 => ?_)
    · have h := (if_pos c10).symm.trans h
      refine V.iconst dX11_gives_30 ki_0 ?_
      obtain rfl := Option.some.inj h
      exact V.ireturn dX11_gives_31
    · have h := (if_neg c10).symm.trans h
      refine V.iload_n dX11_gives_21 rfl rfl ?_
      refine V.iconst dX11_gives_22 ki_0 ?_
      refine V.iconst dX11_gives_23 ki_5 ?_
      obtain ⟨p11, h12, h⟩ := bnd h
      have w13 := w_X11_in (g := g) (A := A1) h12
      refine V.callSi (args := [LI v3, LI (0 : Int32), LI (5 : Int32)]) (st := []) w13.1 mk_X11_in w13.2 ml_RX11_108 sm_X11_in rfl (Nat.le_of_ble_eq_true rfl) (by decide) rfl (Nat.le_of_ble_eq_true rfl) dX11_gives_24 ?_
      refine V.if_ne (tgt := 32) dX11_gives_27 (by decide) (fun c14 => ?_) (fun c14 => ?_)
      · have h := (if_neg c14).symm.trans h
        refine V.aload_n dX11_gives_32 rfl rfl ?_
        obtain ⟨x15, h16, h⟩ := bnd h
        refine V.getF (gR_F h16) CF11 (Nat.le_of_ble_eq_true rfl) fl_RX11_32 dX11_gives_33 ?_
        refine V.iload_n dX11_gives_36 rfl rfl ?_
        refine V.iload_n dX11_gives_37 rfl rfl ?_
        obtain ⟨A17, h18, h⟩ := bnd h
        refine V.iast h18 dX11_gives_38 ?_
        refine V.aload_n dX11_gives_39 rfl rfl ?_
        obtain ⟨x19, h20, h⟩ := bnd h
        refine V.getF (gR_F h20) CF11 (Nat.le_of_ble_eq_true rfl) fl_RX11_29 dX11_gives_40 ?_
        refine V.iload_n dX11_gives_43 rfl rfl ?_
        refine V.iload_n dX11_gives_44 rfl rfl ?_
        obtain ⟨A21, h22, h⟩ := bnd h
        refine V.iast h22 dX11_gives_45 ?_
        refine V.iconst dX11_gives_46 ki_1 ?_
        obtain rfl := Option.some.inj h
        exact V.ireturn dX11_gives_47
      · have h := (if_pos c14).symm.trans h
        refine V.iconst dX11_gives_30 ki_0 ?_
        obtain rfl := Option.some.inj h
        exact V.ireturn dX11_gives_31
def f_X11_gives (A : LH) (v0 : Option Nat) (v1 : Int32) (v2 : Int32) (v3 : Int32) : Option (Int32 × LH) := if isO A v0 11 = true then zc (b_X11_gives A v0 v1 v2 v3) else none
theorem w_X11_gives {g : GG} {A : LH} {v0 : Option Nat} {v1 : Int32} {v2 : Int32} {v3 : Int32} {p : Int32 × LH} (h : f_X11_gives A v0 v1 v2 v3 = some p) : Ct g m_X11_gives 2 [LR v0, LI v1, LI v2, LI v3] A (some (LI p.1)) p.2 := by
  unfold f_X11_gives at h
  obtain ⟨ho, h⟩ := ifN h
  obtain ⟨h, hz⟩ := zc_sp h
  exact ⟨wb_X11_gives h, (RTz hz)⟩
theorem oo_X11_gives {A : LH} {v0 : Option Nat} {v1 : Int32} {v2 : Int32} {v3 : Int32} {p : Int32 × LH} (h : f_X11_gives A v0 v1 v2 v3 = some p) : isO A v0 11 = true := by unfold f_X11_gives at h; exact (ifN h).1
def b_X11_tell_14 (A : LH) (v0 : Option Nat) (v1 : Int32) (v2 : Int32) : Option (Int32 × LH) :=
  (f_X11_isPerson A v0 v1).bind fun p4 => if p4 = 0 then some ((-1 : Int32), A) else if v2 = 0 then (gR A v0 11 4).bind fun x13 => (aI A x13 0 v1).bind fun x15 => some (x15, A) else (gR A v0 11 5).bind fun x9 => (aI A x9 0 v1).bind fun x11 => some (x11, A)
set_option maxRecDepth 4000 in
theorem wb_X11_tell_14 {g : GG} {n0 z0 : Nat} {A : LH} {v0 : Option Nat} {v1 : Int32} {v2 : Int32} {p : Int32 × LH} (h : b_X11_tell_14 A v0 v1 v2 = some p) : V g m_X11_tell 2 n0 z0 (some (LI p.1)) p.2 A 14 [some (LR v0), some (LI v1), some (LI v2)] [] := by
  unfold b_X11_tell_14 at h
  refine V.aload_n dX11_tell_14 rfl rfl ?_
  refine V.iload_n dX11_tell_15 rfl rfl ?_
  obtain ⟨p4, h5, h⟩ := bnd h
  have w6 := w_X11_isPerson (g := g) h5
  refine V.callVi (args := [LI v1]) (st := []) w6.1 (oo_X11_isPerson h5) mk_X11_isPerson w6.2 vc_11 ml_RX11_271 im_X11_isPerson se_X11_isPerson rfl (Nat.le_of_ble_eq_true rfl) (by decide) rfl (Nat.le_of_ble_eq_true rfl) dX11_tell_16 ?_
  refine V.if_ne (tgt := 26) dX11_tell_19 (by decide) (fun c7 => ?_) (fun c7 => ?_)
  · have h := (if_neg c7).symm.trans h
    refine V.iload_n dX11_tell_26 rfl rfl ?_
    refine V.if_ne (tgt := 39) dX11_tell_27 (by decide) (fun c8 => ?_) (fun c8 => ?_)
    · have h := (if_neg c8).symm.trans h
      refine V.aload_n dX11_tell_39 rfl rfl ?_
      obtain ⟨x9, h10, h⟩ := bnd h
      refine V.getF (gR_F h10) CF11 (Nat.le_of_ble_eq_true rfl) fl_RX11_20 dX11_tell_40 ?_
      refine V.iload_n dX11_tell_43 rfl rfl ?_
      obtain ⟨x11, h12, h⟩ := bnd h
      refine V.iald h12 dX11_tell_44 ?_
      obtain rfl := Option.some.inj h
      exact V.ireturn dX11_tell_45
    · have h := (if_pos c8).symm.trans h
      refine V.aload_n dX11_tell_30 rfl rfl ?_
      obtain ⟨x13, h14, h⟩ := bnd h
      refine V.getF (gR_F h14) CF11 (Nat.le_of_ble_eq_true rfl) fl_RX11_17 dX11_tell_31 ?_
      refine V.iload_n dX11_tell_34 rfl rfl ?_
      obtain ⟨x15, h16, h⟩ := bnd h
      refine V.iald h16 dX11_tell_35 ?_
      refine V.goto (tgt := 45) dX11_tell_36 (by decide) ?_
      obtain rfl := Option.some.inj h
      exact V.ireturn dX11_tell_45
  · have h := (if_pos c7).symm.trans h
    refine V.iconst dX11_tell_22 ki_m1 ?_
    refine V.goto (tgt := 45) dX11_tell_23 (by decide) ?_
    obtain rfl := Option.some.inj h
    exact V.ireturn dX11_tell_45
def b_X11_tell (A : LH) (v0 : Option Nat) (v1 : Int32) (v2 : Int32) : Option (Int32 × LH) :=
  (pF A v0 11 0 (LI (0 : Int32))).bind fun A1 => if v2 = 0 then b_X11_tell_14 A1 v0 v1 v2 else if v2 = (1 : Int32) then b_X11_tell_14 A1 v0 v1 v2 else (f_X11_isThing A1 v0 v1).bind fun p18 => if p18 = 0 then some ((-1 : Int32), A1) else if v2 = (2 : Int32) then (gR A1 v0 11 7).bind fun x33 => (aI A1 x33 0 v1).bind fun x35 => some (x35, A1) else if v2 = (3 : Int32) then (gR A1 v0 11 8).bind fun x29 => (aI A1 x29 0 v1).bind fun x31 => some (x31, A1) else if v2 = (4 : Int32) then (gR A1 v0 11 9).bind fun x25 => (aI A1 x25 0 v1).bind fun x27 => some (x27, A1) else some ((-1 : Int32), A1)
set_option maxRecDepth 4000 in
theorem wb_X11_tell {g : GG} {n0 z0 : Nat} {A : LH} {v0 : Option Nat} {v1 : Int32} {v2 : Int32} {p : Int32 × LH} (h : b_X11_tell A v0 v1 v2 = some p) : V g m_X11_tell 2 n0 z0 (some (LI p.1)) p.2 A 0 [some (LR v0), some (LI v1), some (LI v2)] [] := by
  unfold b_X11_tell at h
  refine V.aload_n dX11_tell_0 rfl rfl ?_
  refine V.iconst dX11_tell_1 ki_0 ?_
  obtain ⟨A1, h2, h⟩ := bnd h
  refine V.putF h2 rfl rfl rfl CF11 (Nat.le_of_ble_eq_true rfl) fl_RX11_94 dX11_tell_2 ?_
  refine V.iload_n dX11_tell_5 rfl rfl ?_
  refine V.if_eq (tgt := 14) dX11_tell_6 (by decide) (fun c3 => ?_) (fun c3 => ?_)
  · have h := (if_pos c3).symm.trans h
    refine V.weak [true, true, true] ?_
    exact wb_X11_tell_14 h
  · have h := (if_neg c3).symm.trans h
    refine V.iload_n dX11_tell_9 rfl rfl ?_
    refine V.iconst dX11_tell_10 ki_1 ?_
    refine V.icmp_ne (tgt := 46) dX11_tell_11 (by decide) (fun c17 => ?_) (fun c17 => ?_)
    · have h := (if_neg c17).symm.trans h
      refine V.aload_n dX11_tell_46 rfl rfl ?_
      refine V.iload_n dX11_tell_47 rfl rfl ?_
      obtain ⟨p18, h19, h⟩ := bnd h
      have w20 := w_X11_isThing (g := g) h19
      refine V.callVi (args := [LI v1]) (st := []) w20.1 (oo_X11_isThing h19) mk_X11_isThing w20.2 vc_11 ml_RX11_274 im_X11_isThing se_X11_isThing rfl (Nat.le_of_ble_eq_true rfl) (by decide) rfl (Nat.le_of_ble_eq_true rfl) dX11_tell_48 ?_
      refine V.if_ne (tgt := 56) dX11_tell_51 (by decide) (fun c21 => ?_) (fun c21 => ?_)
      · have h := (if_neg c21).symm.trans h
        refine V.iload_n dX11_tell_56 rfl rfl ?_
        refine V.iconst dX11_tell_57 ki_2 ?_
        refine V.icmp_ne (tgt := 70) dX11_tell_58 (by decide) (fun c22 => ?_) (fun c22 => ?_)
        · have h := (if_neg c22).symm.trans h
          refine V.iload_n dX11_tell_70 rfl rfl ?_
          refine V.iconst dX11_tell_71 ki_3 ?_
          refine V.icmp_ne (tgt := 84) dX11_tell_72 (by decide) (fun c23 => ?_) (fun c23 => ?_)
          · have h := (if_neg c23).symm.trans h
            refine V.iload_n dX11_tell_84 rfl rfl ?_
            refine V.iconst dX11_tell_85 ki_4 ?_
            refine V.icmp_ne (tgt := 98) dX11_tell_86 (by decide) (fun c24 => ?_) (fun c24 => ?_)
            · have h := (if_neg c24).symm.trans h
              refine V.iconst dX11_tell_98 ki_m1 ?_
              obtain rfl := Option.some.inj h
              exact V.ireturn dX11_tell_99
            · have h := (if_pos c24).symm.trans h
              refine V.aload_n dX11_tell_89 rfl rfl ?_
              obtain ⟨x25, h26, h⟩ := bnd h
              refine V.getF (gR_F h26) CF11 (Nat.le_of_ble_eq_true rfl) fl_RX11_32 dX11_tell_90 ?_
              refine V.iload_n dX11_tell_93 rfl rfl ?_
              obtain ⟨x27, h28, h⟩ := bnd h
              refine V.iald h28 dX11_tell_94 ?_
              refine V.goto (tgt := 99) dX11_tell_95 (by decide) ?_
              obtain rfl := Option.some.inj h
              exact V.ireturn dX11_tell_99
          · have h := (if_pos c23).symm.trans h
            refine V.aload_n dX11_tell_75 rfl rfl ?_
            obtain ⟨x29, h30, h⟩ := bnd h
            refine V.getF (gR_F h30) CF11 (Nat.le_of_ble_eq_true rfl) fl_RX11_29 dX11_tell_76 ?_
            refine V.iload_n dX11_tell_79 rfl rfl ?_
            obtain ⟨x31, h32, h⟩ := bnd h
            refine V.iald h32 dX11_tell_80 ?_
            refine V.goto (tgt := 99) dX11_tell_81 (by decide) ?_
            obtain rfl := Option.some.inj h
            exact V.ireturn dX11_tell_99
        · have h := (if_pos c22).symm.trans h
          refine V.aload_n dX11_tell_61 rfl rfl ?_
          obtain ⟨x33, h34, h⟩ := bnd h
          refine V.getF (gR_F h34) CF11 (Nat.le_of_ble_eq_true rfl) fl_RX11_26 dX11_tell_62 ?_
          refine V.iload_n dX11_tell_65 rfl rfl ?_
          obtain ⟨x35, h36, h⟩ := bnd h
          refine V.iald h36 dX11_tell_66 ?_
          refine V.goto (tgt := 99) dX11_tell_67 (by decide) ?_
          obtain rfl := Option.some.inj h
          exact V.ireturn dX11_tell_99
      · have h := (if_pos c21).symm.trans h
        refine V.iconst dX11_tell_54 ki_m1 ?_
        obtain rfl := Option.some.inj h
        exact V.ireturn dX11_tell_55
    · have h := (if_pos c17).symm.trans h
      refine V.weak [true, true, true] ?_
      exact wb_X11_tell_14 h
def f_X11_tell (A : LH) (v0 : Option Nat) (v1 : Int32) (v2 : Int32) : Option (Int32 × LH) := if isO A v0 11 = true then b_X11_tell A v0 v1 v2 else none
theorem w_X11_tell {g : GG} {A : LH} {v0 : Option Nat} {v1 : Int32} {v2 : Int32} {p : Int32 × LH} (h : f_X11_tell A v0 v1 v2 = some p) : Ct g m_X11_tell 2 [LR v0, LI v1, LI v2] A (some (LI p.1)) p.2 := by
  unfold f_X11_tell at h
  obtain ⟨ho, h⟩ := ifN h
  exact ⟨wb_X11_tell h, rfl⟩
theorem oo_X11_tell {A : LH} {v0 : Option Nat} {v1 : Int32} {v2 : Int32} {p : Int32 × LH} (h : f_X11_tell A v0 v1 v2 = some p) : isO A v0 11 = true := by unfold f_X11_tell at h; exact (ifN h).1
def b_X11_ones_4 (N : Nat) (k4 : Int32 → Int32 → Option (Int32)) (v1 : Int32) (v2 : Int32) : Option (Int32) :=
  if v2 = 0 then some v1 else k4 (v1 + (1 : Int32)) (v2 &&& (v2 - (1 : Int32)))
set_option maxRecDepth 4000 in
theorem wb_X11_ones_4 {g : GG} {n0 z0 : Nat} (N : Nat) {k4 : Int32 → Int32 → Option (Int32)} {A : LH} {v1 : Int32} {v2 : Int32} {p : Int32} (hk4 : ∀ {v1 : Int32} {v2 : Int32} {p : Int32}, k4 v1 v2 = some p → V g m_X11_ones 0 n0 z0 (some (LI p)) A A 4 [none, some (LI v1), some (LI v2)] []) (h : b_X11_ones_4 N k4 v1 v2 = some p) : V g m_X11_ones 0 n0 z0 (some (LI p)) A A 4 [none, some (LI v1), some (LI v2)] [] := by
  unfold b_X11_ones_4 at h
  refine V.iload_n dX11_ones_4 rfl rfl ?_
  refine V.if_eq (tgt := 20) dX11_ones_5 (by decide) (fun c1 => ?_) (fun c1 => ?_)
  · have h := (if_pos c1).symm.trans h
    refine V.iload_n dX11_ones_20 rfl rfl ?_
    obtain rfl := Option.some.inj h
    exact V.ireturn dX11_ones_21
  · have h := (if_neg c1).symm.trans h
    refine V.iinc (ls' := [none, some (LI (v1 + (1 : Int32))), some (LI v2)]) dX11_ones_8 rfl ki_1 (by decide) rfl rfl ?_
    refine V.iload_n dX11_ones_11 rfl rfl ?_
    refine V.iload_n dX11_ones_12 rfl rfl ?_
    refine V.iconst dX11_ones_13 ki_1 ?_
    refine V.isub dX11_ones_14 ?_
    refine V.iand dX11_ones_15 ?_
    refine V.istore_n (ls' := [none, some (LI (v1 + (1 : Int32))), some (LI (v2 &&& (v2 - (1 : Int32))))]) dX11_ones_16 rfl (by decide) rfl rfl ?_
    refine V.goto (tgt := 4) dX11_ones_17 (by decide) ?_
    refine V.weak [false, true, true] ?_
    exact hk4 h
def l_X11_ones_4 (N : Nat) : Nat → Int32 → Int32 → Option (Int32)
  | 0, _, _ => none
  | n + 1, v1, v2 => b_X11_ones_4 N (l_X11_ones_4 N n) v1 v2
theorem wl_X11_ones_4 {g : GG} {n0 z0 : Nat} (N : Nat) {A : LH} : ∀ (n : Nat) {v1 : Int32} {v2 : Int32} {p : Int32}, l_X11_ones_4 N n v1 v2 = some p → V g m_X11_ones 0 n0 z0 (some (LI p)) A A 4 [none, some (LI v1), some (LI v2)] []
  | 0, _, _, _, h => nomatch h
  | n + 1, _, _, _, h => wb_X11_ones_4 N (wl_X11_ones_4 N n) h
def b_X11_ones (N : Nat) (v0 : Int32) : Option (Int32) :=
  l_X11_ones_4 N N (0 : Int32) v0
set_option maxRecDepth 4000 in
theorem wb_X11_ones {g : GG} {n0 z0 : Nat} (N : Nat) {A : LH} {v0 : Int32} {p : Int32} (h : b_X11_ones N v0 = some p) : V g m_X11_ones 0 n0 z0 (some (LI p)) A A 0 [some (LI v0)] [] := by
  unfold b_X11_ones at h
  refine V.iconst dX11_ones_0 ki_0 ?_
  refine V.istore_n (ls' := [some (LI v0), some (LI (0 : Int32))]) dX11_ones_1 rfl (by decide) rfl rfl ?_
  refine V.iload_n dX11_ones_2 rfl rfl ?_
  refine V.istore_n (ls' := [some (LI v0), some (LI (0 : Int32)), some (LI v0)]) dX11_ones_3 rfl (by decide) rfl rfl ?_
  refine V.weak [false, true, true] ?_
  exact wl_X11_ones_4 N N h
def f_X11_ones (N : Nat) (v0 : Int32) : Option (Int32) := b_X11_ones N v0
theorem w_X11_ones {g : GG} (N : Nat) {A : LH} {v0 : Int32} {p : Int32} (h : f_X11_ones N v0 = some p) : Ct g m_X11_ones 0 [LI v0] A (some (LI p)) A := by
  unfold f_X11_ones at h
  exact ⟨wb_X11_ones N h, rfl⟩
def b_X11_tested_336 (N : Nat) (k12 : LH → Option Nat → Int32 → Int32 → Int32 → Int32 → Int32 → Option (Int32 × LH)) (A : LH) (v0 : Option Nat) (v3 : Int32) (v4 : Int32) (v5 : Int32) (v6 : Int32) (v7 : Int32) (s0 : Int32) (s1 : Int32) (s2 : Option Nat) : Option (Int32 × LH) :=
  (sI A s2 0 s1 s0).bind fun A33 => k12 A33 v0 v3 v4 v5 v6 (v7 + (1 : Int32))
set_option maxRecDepth 4000 in
theorem wb_X11_tested_336 {g : GG} {n0 z0 : Nat} (N : Nat) {k12 : LH → Option Nat → Int32 → Int32 → Int32 → Int32 → Int32 → Option (Int32 × LH)} {A : LH} {v0 : Option Nat} {v3 : Int32} {v4 : Int32} {v5 : Int32} {v6 : Int32} {v7 : Int32} {s0 : Int32} {s1 : Int32} {s2 : Option Nat} {p : Int32 × LH} (hk12 : ∀ {A : LH} {v0 : Option Nat} {v3 : Int32} {v4 : Int32} {v5 : Int32} {v6 : Int32} {v7 : Int32} {p : Int32 × LH}, k12 A v0 v3 v4 v5 v6 v7 = some p → V g m_X11_tested 1 n0 z0 (some (LI p.1)) p.2 A 12 [some (LR v0), none, none, some (LI v3), some (LI v4), some (LI v5), some (LI v6), some (LI v7)] []) (h : b_X11_tested_336 N k12 A v0 v3 v4 v5 v6 v7 s0 s1 s2 = some p) : V g m_X11_tested 1 n0 z0 (some (LI p.1)) p.2 A 336 [some (LR v0), none, none, some (LI v3), some (LI v4), some (LI v5), some (LI v6), some (LI v7)] [LI s0, LI s1, LR s2] := by
  unfold b_X11_tested_336 at h
  obtain ⟨A33, h34, h⟩ := bnd h
  refine V.iast h34 dX11_tested_336 ?_
  refine V.iinc (ls' := [some (LR v0), none, none, some (LI v3), some (LI v4), some (LI v5), some (LI v6), some (LI (v7 + (1 : Int32)))]) dX11_tested_337 rfl ki_1 (by decide) rfl rfl ?_
  refine V.goto (tgt := 12) dX11_tested_340 (by decide) ?_
  refine V.weak [true, false, false, true, true, true, true, true] ?_
  exact hk12 h
def b_X11_tested_316 (N : Nat) (k12 : LH → Option Nat → Int32 → Int32 → Int32 → Int32 → Int32 → Option (Int32 × LH)) (A : LH) (v0 : Option Nat) (v3 : Int32) (v4 : Int32) (v5 : Int32) (v6 : Int32) (v7 : Int32) (s0 : Int32) : Option (Int32 × LH) :=
  (gR A v0 11 38).bind fun x30 => if s0 = 0 then b_X11_tested_336 N k12 A v0 v3 v4 v5 v6 v7 (0 : Int32) (v6 - (1 : Int32)) x30 else b_X11_tested_336 N k12 A v0 v3 v4 v5 v6 v7 (1 : Int32) (v6 - (1 : Int32)) x30
set_option maxRecDepth 4000 in
theorem wb_X11_tested_316 {g : GG} {n0 z0 : Nat} (N : Nat) {k12 : LH → Option Nat → Int32 → Int32 → Int32 → Int32 → Int32 → Option (Int32 × LH)} {A : LH} {v0 : Option Nat} {v3 : Int32} {v4 : Int32} {v5 : Int32} {v6 : Int32} {v7 : Int32} {s0 : Int32} {p : Int32 × LH} (hk12 : ∀ {A : LH} {v0 : Option Nat} {v3 : Int32} {v4 : Int32} {v5 : Int32} {v6 : Int32} {v7 : Int32} {p : Int32 × LH}, k12 A v0 v3 v4 v5 v6 v7 = some p → V g m_X11_tested 1 n0 z0 (some (LI p.1)) p.2 A 12 [some (LR v0), none, none, some (LI v3), some (LI v4), some (LI v5), some (LI v6), some (LI v7)] []) (h : b_X11_tested_316 N k12 A v0 v3 v4 v5 v6 v7 s0 = some p) : V g m_X11_tested 1 n0 z0 (some (LI p.1)) p.2 A 316 [some (LR v0), none, none, some (LI v3), some (LI v4), some (LI v5), some (LI v6), some (LI v7)] [LI s0] := by
  unfold b_X11_tested_316 at h
  refine V.istore (ls' := [some (LR v0), none, none, some (LI v3), some (LI v4), some (LI v5), some (LI v6), some (LI v7), none, none, none, some (LI s0)]) dX11_tested_316 (by decide) rfl rfl ?_
  refine V.aload_n dX11_tested_318 rfl rfl ?_
  obtain ⟨x30, h31, h⟩ := bnd h
  refine V.getF (gR_F h31) CF11 (Nat.le_of_ble_eq_true rfl) fl_RX11_75 dX11_tested_319 ?_
  refine V.iload dX11_tested_322 rfl ?_
  refine V.iconst dX11_tested_324 ki_1 ?_
  refine V.isub dX11_tested_325 ?_
  refine V.iload dX11_tested_326 rfl ?_
  refine V.if_eq (tgt := 335) dX11_tested_328 (by decide) (fun c32 => ?_) (fun c32 => ?_)
  · have h := (if_pos c32).symm.trans h
    refine V.iconst dX11_tested_335 ki_0 ?_
    refine V.weak [true, false, false, true, true, true, true, true] ?_
    exact wb_X11_tested_336 N hk12 h
  · have h := (if_neg c32).symm.trans h
    refine V.iconst dX11_tested_331 ki_1 ?_
    refine V.goto (tgt := 336) dX11_tested_332 (by decide) ?_
    refine V.weak [true, false, false, true, true, true, true, true] ?_
    exact wb_X11_tested_336 N hk12 h
def b_X11_tested_153 (N : Nat) (k12 : LH → Option Nat → Int32 → Int32 → Int32 → Int32 → Int32 → Option (Int32 × LH)) (A : LH) (v0 : Option Nat) (v3 : Int32) (v4 : Int32) (v5 : Int32) (v6 : Int32) (v7 : Int32) (s0 : Int32) (s1 : Int32) (s2 : Option Nat) : Option (Int32 × LH) :=
  (sI A s2 0 s1 s0).bind fun A60 => k12 A60 v0 v3 v4 v5 (v6 + (1 : Int32)) (v7 + (1 : Int32))
set_option maxRecDepth 4000 in
theorem wb_X11_tested_153 {g : GG} {n0 z0 : Nat} (N : Nat) {k12 : LH → Option Nat → Int32 → Int32 → Int32 → Int32 → Int32 → Option (Int32 × LH)} {A : LH} {v0 : Option Nat} {v3 : Int32} {v4 : Int32} {v5 : Int32} {v6 : Int32} {v7 : Int32} {s0 : Int32} {s1 : Int32} {s2 : Option Nat} {p : Int32 × LH} (hk12 : ∀ {A : LH} {v0 : Option Nat} {v3 : Int32} {v4 : Int32} {v5 : Int32} {v6 : Int32} {v7 : Int32} {p : Int32 × LH}, k12 A v0 v3 v4 v5 v6 v7 = some p → V g m_X11_tested 1 n0 z0 (some (LI p.1)) p.2 A 12 [some (LR v0), none, none, some (LI v3), some (LI v4), some (LI v5), some (LI v6), some (LI v7)] []) (h : b_X11_tested_153 N k12 A v0 v3 v4 v5 v6 v7 s0 s1 s2 = some p) : V g m_X11_tested 1 n0 z0 (some (LI p.1)) p.2 A 153 [some (LR v0), none, none, some (LI v3), some (LI v4), some (LI v5), some (LI v6), some (LI v7)] [LI s0, LI s1, LR s2] := by
  unfold b_X11_tested_153 at h
  obtain ⟨A60, h61, h⟩ := bnd h
  refine V.iast h61 dX11_tested_153 ?_
  refine V.iinc (ls' := [some (LR v0), none, none, some (LI v3), some (LI v4), some (LI v5), some (LI (v6 + (1 : Int32))), some (LI v7)]) dX11_tested_154 rfl ki_1 (by decide) rfl rfl ?_
  refine V.goto (tgt := 337) dX11_tested_157 (by decide) ?_
  refine V.iinc (ls' := [some (LR v0), none, none, some (LI v3), some (LI v4), some (LI v5), some (LI (v6 + (1 : Int32))), some (LI (v7 + (1 : Int32)))]) dX11_tested_337 rfl ki_1 (by decide) rfl rfl ?_
  refine V.goto (tgt := 12) dX11_tested_340 (by decide) ?_
  refine V.weak [true, false, false, true, true, true, true, true] ?_
  exact hk12 h
def b_X11_tested_12 (N : Nat) (k12 : LH → Option Nat → Int32 → Int32 → Int32 → Int32 → Int32 → Option (Int32 × LH)) (A : LH) (v0 : Option Nat) (v3 : Int32) (v4 : Int32) (v5 : Int32) (v6 : Int32) (v7 : Int32) : Option (Int32 × LH) :=
  (gR A v0 11 16).bind fun x1 => (aI A x1 1 v7).bind fun x3 => if x3 = (13 : Int32) then (gR A v0 11 38).bind fun x6 => (aI A x6 0 (0 : Int32)).bind fun x8 => if x8 = (1 : Int32) then some ((1 : Int32), A) else some ((0 : Int32), A) else (gR A v0 11 16).bind fun x11 => (aI A x11 1 v7).bind fun x13 => if (6 : Int32) < x13 then if x13 = (10 : Int32) then (gR A v0 11 38).bind fun x39 => (gR A v0 11 38).bind fun x41 => (aI A x41 0 (v6 - (1 : Int32))).bind fun x43 => (sI A x39 0 (v6 - (1 : Int32)) ((1 : Int32) - x43)).bind fun A45 => k12 A45 v0 v3 v4 v5 v6 (v7 + (1 : Int32)) else (gR A v0 11 38).bind fun x17 => (aI A x17 0 ((v6 + (-1 : Int32)) - (1 : Int32))).bind fun x19 => (gR A v0 11 38).bind fun x21 => (aI A x21 0 (v6 + (-1 : Int32))).bind fun x23 => if x13 = (7 : Int32) then if x23 ≤ x19 then b_X11_tested_316 N k12 A v0 v3 v4 v5 (v6 + (-1 : Int32)) v7 (0 : Int32) else b_X11_tested_316 N k12 A v0 v3 v4 v5 (v6 + (-1 : Int32)) v7 (1 : Int32) else if x13 = (8 : Int32) then if x19 ≤ x23 then b_X11_tested_316 N k12 A v0 v3 v4 v5 (v6 + (-1 : Int32)) v7 (0 : Int32) else b_X11_tested_316 N k12 A v0 v3 v4 v5 (v6 + (-1 : Int32)) v7 (1 : Int32) else if x13 = (9 : Int32) then if x19 = x23 then b_X11_tested_316 N k12 A v0 v3 v4 v5 (v6 + (-1 : Int32)) v7 (1 : Int32) else b_X11_tested_316 N k12 A v0 v3 v4 v5 (v6 + (-1 : Int32)) v7 (0 : Int32) else if x13 = (11 : Int32) then if (x19 + x23) = (2 : Int32) then b_X11_tested_316 N k12 A v0 v3 v4 v5 (v6 + (-1 : Int32)) v7 (1 : Int32) else b_X11_tested_316 N k12 A v0 v3 v4 v5 (v6 + (-1 : Int32)) v7 (0 : Int32) else if (x19 + x23) ≤ 0 then b_X11_tested_316 N k12 A v0 v3 v4 v5 (v6 + (-1 : Int32)) v7 (0 : Int32) else b_X11_tested_316 N k12 A v0 v3 v4 v5 (v6 + (-1 : Int32)) v7 (1 : Int32) else (gR A v0 11 38).bind fun x47 => if x13 = 0 then (gR A v0 11 17).bind fun x81 => (aI A x81 0 v7).bind fun x83 => b_X11_tested_153 N k12 A v0 v3 v4 v5 v6 v7 x83 v6 x47 else if x13 = (1 : Int32) then b_X11_tested_153 N k12 A v0 v3 v4 v5 v6 v7 v5 v6 x47 else if x13 = (2 : Int32) then (gR A v0 11 5).bind fun x77 => (aI A x77 0 v3).bind fun x79 => b_X11_tested_153 N k12 A v0 v3 v4 v5 v6 v7 x79 v6 x47 else if x13 = (3 : Int32) then (gR A v0 11 8).bind fun x73 => (aI A x73 0 v4).bind fun x75 => b_X11_tested_153 N k12 A v0 v3 v4 v5 v6 v7 x75 v6 x47 else if x13 = (4 : Int32) then (gR A v0 11 7).bind fun x69 => (aI A x69 0 v4).bind fun x71 => b_X11_tested_153 N k12 A v0 v3 v4 v5 v6 v7 x71 v6 x47 else if x13 = (5 : Int32) then (gR A v0 11 4).bind fun x62 => (aI A x62 0 v3).bind fun x64 => (f_X11_ones N x64).bind fun p66 => b_X11_tested_153 N k12 A v0 v3 v4 v5 v6 v7 p66 v6 x47 else (gR A v0 11 9).bind fun x55 => (aI A x55 0 v4).bind fun x57 => if x57 = v3 then b_X11_tested_153 N k12 A v0 v3 v4 v5 v6 v7 (1 : Int32) v6 x47 else b_X11_tested_153 N k12 A v0 v3 v4 v5 v6 v7 (0 : Int32) v6 x47
set_option maxRecDepth 4000 in
theorem wb_X11_tested_12 {g : GG} {n0 z0 : Nat} (N : Nat) {k12 : LH → Option Nat → Int32 → Int32 → Int32 → Int32 → Int32 → Option (Int32 × LH)} {A : LH} {v0 : Option Nat} {v3 : Int32} {v4 : Int32} {v5 : Int32} {v6 : Int32} {v7 : Int32} {p : Int32 × LH} (hk12 : ∀ {A : LH} {v0 : Option Nat} {v3 : Int32} {v4 : Int32} {v5 : Int32} {v6 : Int32} {v7 : Int32} {p : Int32 × LH}, k12 A v0 v3 v4 v5 v6 v7 = some p → V g m_X11_tested 1 n0 z0 (some (LI p.1)) p.2 A 12 [some (LR v0), none, none, some (LI v3), some (LI v4), some (LI v5), some (LI v6), some (LI v7)] []) (h : b_X11_tested_12 N k12 A v0 v3 v4 v5 v6 v7 = some p) : V g m_X11_tested 1 n0 z0 (some (LI p.1)) p.2 A 12 [some (LR v0), none, none, some (LI v3), some (LI v4), some (LI v5), some (LI v6), some (LI v7)] [] := by
  unfold b_X11_tested_12 at h
  refine V.aload_n dX11_tested_12 rfl rfl ?_
  obtain ⟨x1, h2, h⟩ := bnd h
  refine V.getF (gR_F h2) CF11 (Nat.le_of_ble_eq_true rfl) fl_RX11_53 dX11_tested_13 ?_
  refine V.iload dX11_tested_16 rfl ?_
  obtain ⟨x3, h4, h⟩ := bnd h
  refine V.bald h4 dX11_tested_18 ?_
  refine V.bipush dX11_tested_19 kb_13 ?_
  refine V.icmp_eq (tgt := 343) dX11_tested_21 (by decide) (fun c5 => ?_) (fun c5 => ?_)
  · have h := (if_pos c5).symm.trans h
    refine V.aload_n dX11_tested_343 rfl rfl ?_
    obtain ⟨x6, h7, h⟩ := bnd h
    refine V.getF (gR_F h7) CF11 (Nat.le_of_ble_eq_true rfl) fl_RX11_75 dX11_tested_344 ?_
    refine V.iconst dX11_tested_347 ki_0 ?_
    obtain ⟨x8, h9, h⟩ := bnd h
    refine V.iald h9 dX11_tested_348 ?_
    refine V.iconst dX11_tested_349 ki_1 ?_
    refine V.icmp_ne (tgt := 357) dX11_tested_350 (by decide) (fun c10 => ?_) (fun c10 => ?_)
    · have h := (if_neg c10).symm.trans h
      refine V.iconst dX11_tested_357 ki_0 ?_
      obtain rfl := Option.some.inj h
      exact V.ireturn dX11_tested_358
    · have h := (if_pos c10).symm.trans h
      refine V.iconst dX11_tested_353 ki_1 ?_
      refine V.goto (tgt := 358) dX11_tested_354 (by decide) ?_
      obtain rfl := Option.some.inj h
      exact V.ireturn dX11_tested_358
  · have h := (if_neg c5).symm.trans h
    refine V.aload_n dX11_tested_24 rfl rfl ?_
    obtain ⟨x11, h12, h⟩ := bnd h
    refine V.getF (gR_F h12) CF11 (Nat.le_of_ble_eq_true rfl) fl_RX11_53 dX11_tested_25 ?_
    refine V.iload dX11_tested_28 rfl ?_
    obtain ⟨x13, h14, h⟩ := bnd h
    refine V.bald h14 dX11_tested_30 ?_
    refine V.istore (ls' := [some (LR v0), none, none, some (LI v3), some (LI v4), some (LI v5), some (LI v6), some (LI v7), some (LI x13)]) dX11_tested_31 (by decide) rfl rfl ?_
    refine V.iload dX11_tested_33 rfl ?_
    refine V.bipush dX11_tested_35 kb_6 ?_
    refine V.icmp_gt (tgt := 160) dX11_tested_37 (by decide) (fun c15 => ?_) (fun c15 => ?_)
    · have h := (if_pos c15).symm.trans h
      refine V.iload dX11_tested_160 rfl ?_
      refine V.bipush dX11_tested_162 kb_10 ?_
      refine V.icmp_ne (tgt := 190) dX11_tested_164 (by decide) (fun c16 => ?_) (fun c16 => ?_)
      · have h := (if_neg c16).symm.trans h
        refine V.iinc (ls' := [some (LR v0), none, none, some (LI v3), some (LI v4), some (LI v5), some (LI (v6 + (-1 : Int32))), some (LI v7), some (LI x13)]) dX11_tested_190 rfl ki_m1 (by decide) rfl rfl ?_
        refine V.aload_n dX11_tested_193 rfl rfl ?_
        obtain ⟨x17, h18, h⟩ := bnd h
        refine V.getF (gR_F h18) CF11 (Nat.le_of_ble_eq_true rfl) fl_RX11_75 dX11_tested_194 ?_
        refine V.iload dX11_tested_197 rfl ?_
        refine V.iconst dX11_tested_199 ki_1 ?_
        refine V.isub dX11_tested_200 ?_
        obtain ⟨x19, h20, h⟩ := bnd h
        refine V.iald h20 dX11_tested_201 ?_
        refine V.istore (ls' := [some (LR v0), none, none, some (LI v3), some (LI v4), some (LI v5), some (LI (v6 + (-1 : Int32))), some (LI v7), some (LI x13), some (LI x19)]) dX11_tested_202 (by decide) rfl rfl ?_
        refine V.aload_n dX11_tested_204 rfl rfl ?_
        obtain ⟨x21, h22, h⟩ := bnd h
        refine V.getF (gR_F h22) CF11 (Nat.le_of_ble_eq_true rfl) fl_RX11_75 dX11_tested_205 ?_
        refine V.iload dX11_tested_208 rfl ?_
        obtain ⟨x23, h24, h⟩ := bnd h
        refine V.iald h24 dX11_tested_210 ?_
        refine V.istore (ls' := [some (LR v0), none, none, some (LI v3), some (LI v4), some (LI v5), some (LI (v6 + (-1 : Int32))), some (LI v7), some (LI x13), some (LI x19), some (LI x23)]) dX11_tested_211 (by decide) rfl rfl ?_
        refine V.iload dX11_tested_213 rfl ?_
        refine V.bipush dX11_tested_215 kb_7 ?_
        refine V.icmp_ne (tgt := 235) dX11_tested_217 (by decide) (fun c25 => ?_) (fun c25 => ?_)
        · have h := (if_neg c25).symm.trans h
          refine V.iload dX11_tested_235 rfl ?_
          refine V.bipush dX11_tested_237 kb_8 ?_
          refine V.icmp_ne (tgt := 257) dX11_tested_239 (by decide) (fun c26 => ?_) (fun c26 => ?_)
          · have h := (if_neg c26).symm.trans h
            refine V.iload dX11_tested_257 rfl ?_
            refine V.bipush dX11_tested_259 kb_9 ?_
            refine V.icmp_ne (tgt := 279) dX11_tested_261 (by decide) (fun c27 => ?_) (fun c27 => ?_)
            · have h := (if_neg c27).symm.trans h
              refine V.iload dX11_tested_279 rfl ?_
              refine V.bipush dX11_tested_281 kb_11 ?_
              refine V.icmp_ne (tgt := 303) dX11_tested_283 (by decide) (fun c28 => ?_) (fun c28 => ?_)
              · have h := (if_neg c28).symm.trans h
                refine V.iload dX11_tested_303 rfl ?_
                refine V.iload dX11_tested_305 rfl ?_
                refine V.iadd dX11_tested_307 ?_
                refine V.if_le (tgt := 315) dX11_tested_308 (by decide) (fun c29 => ?_) (fun c29 => ?_)
                · have h := (if_pos c29).symm.trans h
                  refine V.iconst dX11_tested_315 ki_0 ?_
                  refine V.weak [true, false, false, true, true, true, true, true] ?_
                  exact wb_X11_tested_316 N hk12 h
                · have h := (if_neg c29).symm.trans h
                  refine V.iconst dX11_tested_311 ki_1 ?_
                  refine V.goto (tgt := 316) dX11_tested_312 (by decide) ?_
                  refine V.weak [true, false, false, true, true, true, true, true] ?_
                  exact wb_X11_tested_316 N hk12 h
              · have h := (if_pos c28).symm.trans h
                refine V.iload dX11_tested_286 rfl ?_
                refine V.iload dX11_tested_288 rfl ?_
                refine V.iadd dX11_tested_290 ?_
                refine V.iconst dX11_tested_291 ki_2 ?_
                refine V.icmp_ne (tgt := 299) dX11_tested_292 (by decide) (fun c35 => ?_) (fun c35 => ?_)
                · have h := (if_neg c35).symm.trans h
                  refine V.iconst dX11_tested_299 ki_0 ?_
                  refine V.goto (tgt := 316) dX11_tested_300 (by decide) ?_
                  refine V.weak [true, false, false, true, true, true, true, true] ?_
                  exact wb_X11_tested_316 N hk12 h
                · have h := (if_pos c35).symm.trans h
                  refine V.iconst dX11_tested_295 ki_1 ?_
                  refine V.goto (tgt := 316) dX11_tested_296 (by decide) ?_
                  refine V.weak [true, false, false, true, true, true, true, true] ?_
                  exact wb_X11_tested_316 N hk12 h
            · have h := (if_pos c27).symm.trans h
              refine V.iload dX11_tested_264 rfl ?_
              refine V.iload dX11_tested_266 rfl ?_
              refine V.icmp_ne (tgt := 275) dX11_tested_268 (by decide) (fun c36 => ?_) (fun c36 => ?_)
              · have h := (if_neg c36).symm.trans h
                refine V.iconst dX11_tested_275 ki_0 ?_
                refine V.goto (tgt := 316) dX11_tested_276 (by decide) ?_
                refine V.weak [true, false, false, true, true, true, true, true] ?_
                exact wb_X11_tested_316 N hk12 h
              · have h := (if_pos c36).symm.trans h
                refine V.iconst dX11_tested_271 ki_1 ?_
                refine V.goto (tgt := 316) dX11_tested_272 (by decide) ?_
                refine V.weak [true, false, false, true, true, true, true, true] ?_
                exact wb_X11_tested_316 N hk12 h
          · have h := (if_pos c26).symm.trans h
            refine V.iload dX11_tested_242 rfl ?_
            refine V.iload dX11_tested_244 rfl ?_
            refine V.icmp_le (tgt := 253) dX11_tested_246 (by decide) (fun c37 => ?_) (fun c37 => ?_)
            · have h := (if_pos c37).symm.trans h
              refine V.iconst dX11_tested_253 ki_0 ?_
              refine V.goto (tgt := 316) dX11_tested_254 (by decide) ?_
              refine V.weak [true, false, false, true, true, true, true, true] ?_
              exact wb_X11_tested_316 N hk12 h
            · have h := (if_neg c37).symm.trans h
              refine V.iconst dX11_tested_249 ki_1 ?_
              refine V.goto (tgt := 316) dX11_tested_250 (by decide) ?_
              refine V.weak [true, false, false, true, true, true, true, true] ?_
              exact wb_X11_tested_316 N hk12 h
        · have h := (if_pos c25).symm.trans h
          refine V.iload dX11_tested_220 rfl ?_
          refine V.iload dX11_tested_222 rfl ?_
          refine V.icmp_ge (tgt := 231) dX11_tested_224 (by decide) (fun c38 => ?_) (fun c38 => ?_)
          · have h := (if_pos c38).symm.trans h
            refine V.iconst dX11_tested_231 ki_0 ?_
            refine V.goto (tgt := 316) dX11_tested_232 (by decide) ?_
            refine V.weak [true, false, false, true, true, true, true, true] ?_
            exact wb_X11_tested_316 N hk12 h
          · have h := (if_neg c38).symm.trans h
            refine V.iconst dX11_tested_227 ki_1 ?_
            refine V.goto (tgt := 316) dX11_tested_228 (by decide) ?_
            refine V.weak [true, false, false, true, true, true, true, true] ?_
            exact wb_X11_tested_316 N hk12 h
      · have h := (if_pos c16).symm.trans h
        refine V.aload_n dX11_tested_167 rfl rfl ?_
        obtain ⟨x39, h40, h⟩ := bnd h
        refine V.getF (gR_F h40) CF11 (Nat.le_of_ble_eq_true rfl) fl_RX11_75 dX11_tested_168 ?_
        refine V.iload dX11_tested_171 rfl ?_
        refine V.iconst dX11_tested_173 ki_1 ?_
        refine V.isub dX11_tested_174 ?_
        refine V.iconst dX11_tested_175 ki_1 ?_
        refine V.aload_n dX11_tested_176 rfl rfl ?_
        obtain ⟨x41, h42, h⟩ := bnd h
        refine V.getF (gR_F h42) CF11 (Nat.le_of_ble_eq_true rfl) fl_RX11_75 dX11_tested_177 ?_
        refine V.iload dX11_tested_180 rfl ?_
        refine V.iconst dX11_tested_182 ki_1 ?_
        refine V.isub dX11_tested_183 ?_
        obtain ⟨x43, h44, h⟩ := bnd h
        refine V.iald h44 dX11_tested_184 ?_
        refine V.isub dX11_tested_185 ?_
        obtain ⟨A45, h46, h⟩ := bnd h
        refine V.iast h46 dX11_tested_186 ?_
        refine V.goto (tgt := 337) dX11_tested_187 (by decide) ?_
        refine V.iinc (ls' := [some (LR v0), none, none, some (LI v3), some (LI v4), some (LI v5), some (LI v6), some (LI (v7 + (1 : Int32))), some (LI x13)]) dX11_tested_337 rfl ki_1 (by decide) rfl rfl ?_
        refine V.goto (tgt := 12) dX11_tested_340 (by decide) ?_
        refine V.weak [true, false, false, true, true, true, true, true] ?_
        exact hk12 h
    · have h := (if_neg c15).symm.trans h
      refine V.aload_n dX11_tested_40 rfl rfl ?_
      obtain ⟨x47, h48, h⟩ := bnd h
      refine V.getF (gR_F h48) CF11 (Nat.le_of_ble_eq_true rfl) fl_RX11_75 dX11_tested_41 ?_
      refine V.iload dX11_tested_44 rfl ?_
      refine V.iload dX11_tested_46 rfl ?_
      refine V.if_ne (tgt := 61) dX11_tested_48 (by decide) (fun c49 => ?_) (fun c49 => ?_)
      · have h := (if_neg c49).symm.trans h
        refine V.iload dX11_tested_61 rfl ?_
        refine V.iconst dX11_tested_63 ki_1 ?_
        refine V.icmp_ne (tgt := 72) dX11_tested_64 (by decide) (fun c50 => ?_) (fun c50 => ?_)
        · have h := (if_neg c50).symm.trans h
          refine V.iload dX11_tested_72 rfl ?_
          refine V.iconst dX11_tested_74 ki_2 ?_
          refine V.icmp_ne (tgt := 87) dX11_tested_75 (by decide) (fun c51 => ?_) (fun c51 => ?_)
          · have h := (if_neg c51).symm.trans h
            refine V.iload dX11_tested_87 rfl ?_
            refine V.iconst dX11_tested_89 ki_3 ?_
            refine V.icmp_ne (tgt := 103) dX11_tested_90 (by decide) (fun c52 => ?_) (fun c52 => ?_)
            · have h := (if_neg c52).symm.trans h
              refine V.iload dX11_tested_103 rfl ?_
              refine V.iconst dX11_tested_105 ki_4 ?_
              refine V.icmp_ne (tgt := 119) dX11_tested_106 (by decide) (fun c53 => ?_) (fun c53 => ?_)
              · have h := (if_neg c53).symm.trans h
                refine V.iload dX11_tested_119 rfl ?_
                refine V.iconst dX11_tested_121 ki_5 ?_
                refine V.icmp_ne (tgt := 137) dX11_tested_122 (by decide) (fun c54 => ?_) (fun c54 => ?_)
                · have h := (if_neg c54).symm.trans h
                  refine V.aload_n dX11_tested_137 rfl rfl ?_
                  obtain ⟨x55, h56, h⟩ := bnd h
                  refine V.getF (gR_F h56) CF11 (Nat.le_of_ble_eq_true rfl) fl_RX11_32 dX11_tested_138 ?_
                  refine V.iload dX11_tested_141 rfl ?_
                  obtain ⟨x57, h58, h⟩ := bnd h
                  refine V.iald h58 dX11_tested_143 ?_
                  refine V.iload_n dX11_tested_144 rfl rfl ?_
                  refine V.icmp_ne (tgt := 152) dX11_tested_145 (by decide) (fun c59 => ?_) (fun c59 => ?_)
                  · have h := (if_neg c59).symm.trans h
                    refine V.iconst dX11_tested_152 ki_0 ?_
                    refine V.weak [true, false, false, true, true, true, true, true] ?_
                    exact wb_X11_tested_153 N hk12 h
                  · have h := (if_pos c59).symm.trans h
                    refine V.iconst dX11_tested_148 ki_1 ?_
                    refine V.goto (tgt := 153) dX11_tested_149 (by decide) ?_
                    refine V.weak [true, false, false, true, true, true, true, true] ?_
                    exact wb_X11_tested_153 N hk12 h
                · have h := (if_pos c54).symm.trans h
                  refine V.aload_n dX11_tested_125 rfl rfl ?_
                  obtain ⟨x62, h63, h⟩ := bnd h
                  refine V.getF (gR_F h63) CF11 (Nat.le_of_ble_eq_true rfl) fl_RX11_17 dX11_tested_126 ?_
                  refine V.iload_n dX11_tested_129 rfl rfl ?_
                  obtain ⟨x64, h65, h⟩ := bnd h
                  refine V.iald h65 dX11_tested_130 ?_
                  obtain ⟨p66, h67, h⟩ := bnd h
                  have w68 := w_X11_ones (g := g) N (A := A) h67
                  refine V.callSi (args := [LI x64]) (st := [LI v6, LR x47]) w68.1 mk_X11_ones w68.2 ml_RX11_277 sm_X11_ones rfl (Nat.le_of_ble_eq_true rfl) (by decide) rfl (Nat.le_of_ble_eq_true rfl) dX11_tested_131 ?_
                  refine V.goto (tgt := 153) dX11_tested_134 (by decide) ?_
                  refine V.weak [true, false, false, true, true, true, true, true] ?_
                  exact wb_X11_tested_153 N hk12 h
              · have h := (if_pos c53).symm.trans h
                refine V.aload_n dX11_tested_109 rfl rfl ?_
                obtain ⟨x69, h70, h⟩ := bnd h
                refine V.getF (gR_F h70) CF11 (Nat.le_of_ble_eq_true rfl) fl_RX11_26 dX11_tested_110 ?_
                refine V.iload dX11_tested_113 rfl ?_
                obtain ⟨x71, h72, h⟩ := bnd h
                refine V.iald h72 dX11_tested_115 ?_
                refine V.goto (tgt := 153) dX11_tested_116 (by decide) ?_
                refine V.weak [true, false, false, true, true, true, true, true] ?_
                exact wb_X11_tested_153 N hk12 h
            · have h := (if_pos c52).symm.trans h
              refine V.aload_n dX11_tested_93 rfl rfl ?_
              obtain ⟨x73, h74, h⟩ := bnd h
              refine V.getF (gR_F h74) CF11 (Nat.le_of_ble_eq_true rfl) fl_RX11_29 dX11_tested_94 ?_
              refine V.iload dX11_tested_97 rfl ?_
              obtain ⟨x75, h76, h⟩ := bnd h
              refine V.iald h76 dX11_tested_99 ?_
              refine V.goto (tgt := 153) dX11_tested_100 (by decide) ?_
              refine V.weak [true, false, false, true, true, true, true, true] ?_
              exact wb_X11_tested_153 N hk12 h
          · have h := (if_pos c51).symm.trans h
            refine V.aload_n dX11_tested_78 rfl rfl ?_
            obtain ⟨x77, h78, h⟩ := bnd h
            refine V.getF (gR_F h78) CF11 (Nat.le_of_ble_eq_true rfl) fl_RX11_20 dX11_tested_79 ?_
            refine V.iload_n dX11_tested_82 rfl rfl ?_
            obtain ⟨x79, h80, h⟩ := bnd h
            refine V.iald h80 dX11_tested_83 ?_
            refine V.goto (tgt := 153) dX11_tested_84 (by decide) ?_
            refine V.weak [true, false, false, true, true, true, true, true] ?_
            exact wb_X11_tested_153 N hk12 h
        · have h := (if_pos c50).symm.trans h
          refine V.iload dX11_tested_67 rfl ?_
          refine V.goto (tgt := 153) dX11_tested_69 (by decide) ?_
          refine V.weak [true, false, false, true, true, true, true, true] ?_
          exact wb_X11_tested_153 N hk12 h
      · have h := (if_pos c49).symm.trans h
        refine V.aload_n dX11_tested_51 rfl rfl ?_
        obtain ⟨x81, h82, h⟩ := bnd h
        refine V.getF (gR_F h82) CF11 (Nat.le_of_ble_eq_true rfl) fl_RX11_56 dX11_tested_52 ?_
        refine V.iload dX11_tested_55 rfl ?_
        obtain ⟨x83, h84, h⟩ := bnd h
        refine V.iald h84 dX11_tested_57 ?_
        refine V.goto (tgt := 153) dX11_tested_58 (by decide) ?_
        refine V.weak [true, false, false, true, true, true, true, true] ?_
        exact wb_X11_tested_153 N hk12 h
def l_X11_tested_12 (N : Nat) : Nat → LH → Option Nat → Int32 → Int32 → Int32 → Int32 → Int32 → Option (Int32 × LH)
  | 0, _, _, _, _, _, _, _ => none
  | n + 1, A, v0, v3, v4, v5, v6, v7 => b_X11_tested_12 N (l_X11_tested_12 N n) A v0 v3 v4 v5 v6 v7
theorem wl_X11_tested_12 {g : GG} {n0 z0 : Nat} (N : Nat) : ∀ (n : Nat) {A : LH} {v0 : Option Nat} {v3 : Int32} {v4 : Int32} {v5 : Int32} {v6 : Int32} {v7 : Int32} {p : Int32 × LH}, l_X11_tested_12 N n A v0 v3 v4 v5 v6 v7 = some p → V g m_X11_tested 1 n0 z0 (some (LI p.1)) p.2 A 12 [some (LR v0), none, none, some (LI v3), some (LI v4), some (LI v5), some (LI v6), some (LI v7)] []
  | 0, _, _, _, _, _, _, _, _, h => nomatch h
  | n + 1, _, _, _, _, _, _, _, _, h => wb_X11_tested_12 N (wl_X11_tested_12 N n) h
def b_X11_tested (N : Nat) (A : LH) (v0 : Option Nat) (v1 : Int32) (v2 : Int32) (v3 : Int32) (v4 : Int32) (v5 : Int32) : Option (Int32 × LH) :=
  l_X11_tested_12 N N A v0 v3 v4 v5 (0 : Int32) (((900 : Int32) * v1) + v2)
set_option maxRecDepth 4000 in
theorem wb_X11_tested {g : GG} {n0 z0 : Nat} (N : Nat) {A : LH} {v0 : Option Nat} {v1 : Int32} {v2 : Int32} {v3 : Int32} {v4 : Int32} {v5 : Int32} {p : Int32 × LH} (h : b_X11_tested N A v0 v1 v2 v3 v4 v5 = some p) : V g m_X11_tested 1 n0 z0 (some (LI p.1)) p.2 A 0 [some (LR v0), some (LI v1), some (LI v2), some (LI v3), some (LI v4), some (LI v5)] [] := by
  unfold b_X11_tested at h
  refine V.iconst dX11_tested_0 ki_0 ?_
  refine V.istore (ls' := [some (LR v0), some (LI v1), some (LI v2), some (LI v3), some (LI v4), some (LI v5), some (LI (0 : Int32))]) dX11_tested_1 (by decide) rfl rfl ?_
  refine V.sipush dX11_tested_3 ks_900 ?_
  refine V.iload_n dX11_tested_6 rfl rfl ?_
  refine V.imul dX11_tested_7 ?_
  refine V.iload_n dX11_tested_8 rfl rfl ?_
  refine V.iadd dX11_tested_9 ?_
  refine V.istore (ls' := [some (LR v0), some (LI v1), some (LI v2), some (LI v3), some (LI v4), some (LI v5), some (LI (0 : Int32)), some (LI (((900 : Int32) * v1) + v2))]) dX11_tested_10 (by decide) rfl rfl ?_
  refine V.weak [true, false, false, true, true, true, true, true] ?_
  exact wl_X11_tested_12 N N h
def f_X11_tested (N : Nat) (A : LH) (v0 : Option Nat) (v1 : Int32) (v2 : Int32) (v3 : Int32) (v4 : Int32) (v5 : Int32) : Option (Int32 × LH) := if isO A v0 11 = true then zc (b_X11_tested N A v0 v1 v2 v3 v4 v5) else none
theorem w_X11_tested {g : GG} (N : Nat) {A : LH} {v0 : Option Nat} {v1 : Int32} {v2 : Int32} {v3 : Int32} {v4 : Int32} {v5 : Int32} {p : Int32 × LH} (h : f_X11_tested N A v0 v1 v2 v3 v4 v5 = some p) : Ct g m_X11_tested 1 [LR v0, LI v1, LI v2, LI v3, LI v4, LI v5] A (some (LI p.1)) p.2 := by
  unfold f_X11_tested at h
  obtain ⟨ho, h⟩ := ifN h
  obtain ⟨h, hz⟩ := zc_sp h
  exact ⟨wb_X11_tested N h, (RTz hz)⟩
theorem oo_X11_tested {N : Nat} {A : LH} {v0 : Option Nat} {v1 : Int32} {v2 : Int32} {v3 : Int32} {v4 : Int32} {v5 : Int32} {p : Int32 × LH} (h : f_X11_tested N A v0 v1 v2 v3 v4 v5 = some p) : isO A v0 11 = true := by unfold f_X11_tested at h; exact (ifN h).1
def b_X11_holds_320 (N : Nat) (A : LH) (v0 : Option Nat) (v1 : Int32) (v3 : Int32) (v5 : Int32) (v6 : Int32) (v7 : Int32) (v10 : Int32) : Option (Int32 × LH) :=
  if v10 = 0 then some ((0 : Int32), A) else (gR A v0 11 15).bind fun x27 => (aI A x27 0 (v7 + (6 : Int32))).bind fun x29 => if x29 = (-1 : Int32) then some ((1 : Int32), A) else (gR A v0 11 15).bind fun x32 => (aI A x32 0 (v7 + (6 : Int32))).bind fun x34 => (f_X11_tested N A v0 v1 x34 v3 v5 v6).bind fun p36 => if p36.1 = 0 then some ((0 : Int32), p36.2) else some ((1 : Int32), p36.2)
set_option maxRecDepth 4000 in
theorem wb_X11_holds_320 {g : GG} {n0 z0 : Nat} (N : Nat) {A : LH} {v0 : Option Nat} {v1 : Int32} {v3 : Int32} {v5 : Int32} {v6 : Int32} {v7 : Int32} {v10 : Int32} {p : Int32 × LH} (h : b_X11_holds_320 N A v0 v1 v3 v5 v6 v7 v10 = some p) : V g m_X11_holds 2 n0 z0 (some (LI p.1)) p.2 A 320 [some (LR v0), some (LI v1), none, some (LI v3), none, some (LI v5), some (LI v6), some (LI v7), none, none, some (LI v10)] [] := by
  unfold b_X11_holds_320 at h
  refine V.iload dX11_holds_320 rfl ?_
  refine V.if_eq (tgt := 366) dX11_holds_322 (by decide) (fun c26 => ?_) (fun c26 => ?_)
  · have h := (if_pos c26).symm.trans h
    refine V.iconst dX11_holds_366 ki_0 ?_
    obtain rfl := Option.some.inj h
    exact V.ireturn dX11_holds_367
  · have h := (if_neg c26).symm.trans h
    refine V.aload_n dX11_holds_325 rfl rfl ?_
    obtain ⟨x27, h28, h⟩ := bnd h
    refine V.getF (gR_F h28) CF11 (Nat.le_of_ble_eq_true rfl) fl_RX11_50 dX11_holds_326 ?_
    refine V.iload dX11_holds_329 rfl ?_
    refine V.bipush dX11_holds_331 kb_6 ?_
    refine V.iadd dX11_holds_333 ?_
    obtain ⟨x29, h30, h⟩ := bnd h
    refine V.iald h30 dX11_holds_334 ?_
    refine V.iconst dX11_holds_335 ki_m1 ?_
    refine V.icmp_eq (tgt := 362) dX11_holds_336 (by decide) (fun c31 => ?_) (fun c31 => ?_)
    · have h := (if_pos c31).symm.trans h
      refine V.iconst dX11_holds_362 ki_1 ?_
      refine V.goto (tgt := 367) dX11_holds_363 (by decide) ?_
      obtain rfl := Option.some.inj h
      exact V.ireturn dX11_holds_367
    · have h := (if_neg c31).symm.trans h
      refine V.aload_n dX11_holds_339 rfl rfl ?_
      refine V.iload_n dX11_holds_340 rfl rfl ?_
      refine V.aload_n dX11_holds_341 rfl rfl ?_
      obtain ⟨x32, h33, h⟩ := bnd h
      refine V.getF (gR_F h33) CF11 (Nat.le_of_ble_eq_true rfl) fl_RX11_50 dX11_holds_342 ?_
      refine V.iload dX11_holds_345 rfl ?_
      refine V.bipush dX11_holds_347 kb_6 ?_
      refine V.iadd dX11_holds_349 ?_
      obtain ⟨x34, h35, h⟩ := bnd h
      refine V.iald h35 dX11_holds_350 ?_
      refine V.iload_n dX11_holds_351 rfl rfl ?_
      refine V.iload dX11_holds_352 rfl ?_
      refine V.iload dX11_holds_354 rfl ?_
      obtain ⟨p36, h37, h⟩ := bnd h
      have w38 := w_X11_tested (g := g) N h37
      refine V.callVi (args := [LI v1, LI x34, LI v3, LI v5, LI v6]) (st := []) w38.1 (oo_X11_tested h37) mk_X11_tested w38.2 vc_11 ml_RX11_281 im_X11_tested se_X11_tested rfl (Nat.le_of_ble_eq_true rfl) (by decide) rfl (Nat.le_of_ble_eq_true rfl) dX11_holds_356 ?_
      refine V.if_eq (tgt := 366) dX11_holds_359 (by decide) (fun c39 => ?_) (fun c39 => ?_)
      · have h := (if_pos c39).symm.trans h
        refine V.iconst dX11_holds_366 ki_0 ?_
        obtain rfl := Option.some.inj h
        exact V.ireturn dX11_holds_367
      · have h := (if_neg c39).symm.trans h
        refine V.iconst dX11_holds_362 ki_1 ?_
        refine V.goto (tgt := 367) dX11_holds_363 (by decide) ?_
        obtain rfl := Option.some.inj h
        exact V.ireturn dX11_holds_367
def b_X11_holds_266 (N : Nat) (A : LH) (v0 : Option Nat) (v1 : Int32) (v3 : Int32) (v5 : Int32) (v6 : Int32) (v7 : Int32) (s0 : Int32) : Option (Int32 × LH) :=
  b_X11_holds_320 N A v0 v1 v3 v5 v6 v7 s0
set_option maxRecDepth 4000 in
theorem wb_X11_holds_266 {g : GG} {n0 z0 : Nat} (N : Nat) {A : LH} {v0 : Option Nat} {v1 : Int32} {v3 : Int32} {v5 : Int32} {v6 : Int32} {v7 : Int32} {s0 : Int32} {p : Int32 × LH} (h : b_X11_holds_266 N A v0 v1 v3 v5 v6 v7 s0 = some p) : V g m_X11_holds 2 n0 z0 (some (LI p.1)) p.2 A 266 [some (LR v0), some (LI v1), none, some (LI v3), none, some (LI v5), some (LI v6), some (LI v7)] [LI s0] := by
  unfold b_X11_holds_266 at h
  refine V.istore (ls' := [some (LR v0), some (LI v1), none, some (LI v3), none, some (LI v5), some (LI v6), some (LI v7), none, none, some (LI s0)]) dX11_holds_266 (by decide) rfl rfl ?_
  refine V.goto (tgt := 320) dX11_holds_268 (by decide) ?_
  refine V.weak [true, true, false, true, false, true, true, true, false, false, true] ?_
  exact wb_X11_holds_320 N h
def b_X11_holds_265 (N : Nat) (A : LH) (v0 : Option Nat) (v1 : Int32) (v3 : Int32) (v5 : Int32) (v6 : Int32) (v7 : Int32) : Option (Int32 × LH) :=
  b_X11_holds_266 N A v0 v1 v3 v5 v6 v7 (0 : Int32)
set_option maxRecDepth 4000 in
theorem wb_X11_holds_265 {g : GG} {n0 z0 : Nat} (N : Nat) {A : LH} {v0 : Option Nat} {v1 : Int32} {v3 : Int32} {v5 : Int32} {v6 : Int32} {v7 : Int32} {p : Int32 × LH} (h : b_X11_holds_265 N A v0 v1 v3 v5 v6 v7 = some p) : V g m_X11_holds 2 n0 z0 (some (LI p.1)) p.2 A 265 [some (LR v0), some (LI v1), none, some (LI v3), none, some (LI v5), some (LI v6), some (LI v7)] [] := by
  unfold b_X11_holds_265 at h
  refine V.iconst dX11_holds_265 ki_0 ?_
  refine V.weak [true, true, false, true, false, true, true, true] ?_
  exact wb_X11_holds_266 N h
def b_X11_holds_288 (N : Nat) (A : LH) (v0 : Option Nat) (v1 : Int32) (v3 : Int32) (v5 : Int32) (v6 : Int32) (v7 : Int32) (s0 : Int32) : Option (Int32 × LH) :=
  b_X11_holds_320 N A v0 v1 v3 v5 v6 v7 s0
set_option maxRecDepth 4000 in
theorem wb_X11_holds_288 {g : GG} {n0 z0 : Nat} (N : Nat) {A : LH} {v0 : Option Nat} {v1 : Int32} {v3 : Int32} {v5 : Int32} {v6 : Int32} {v7 : Int32} {s0 : Int32} {p : Int32 × LH} (h : b_X11_holds_288 N A v0 v1 v3 v5 v6 v7 s0 = some p) : V g m_X11_holds 2 n0 z0 (some (LI p.1)) p.2 A 288 [some (LR v0), some (LI v1), none, some (LI v3), none, some (LI v5), some (LI v6), some (LI v7)] [LI s0] := by
  unfold b_X11_holds_288 at h
  refine V.istore (ls' := [some (LR v0), some (LI v1), none, some (LI v3), none, some (LI v5), some (LI v6), some (LI v7), none, none, some (LI s0)]) dX11_holds_288 (by decide) rfl rfl ?_
  refine V.goto (tgt := 320) dX11_holds_290 (by decide) ?_
  refine V.weak [true, true, false, true, false, true, true, true, false, false, true] ?_
  exact wb_X11_holds_320 N h
def b_X11_holds_287 (N : Nat) (A : LH) (v0 : Option Nat) (v1 : Int32) (v3 : Int32) (v5 : Int32) (v6 : Int32) (v7 : Int32) : Option (Int32 × LH) :=
  b_X11_holds_288 N A v0 v1 v3 v5 v6 v7 (0 : Int32)
set_option maxRecDepth 4000 in
theorem wb_X11_holds_287 {g : GG} {n0 z0 : Nat} (N : Nat) {A : LH} {v0 : Option Nat} {v1 : Int32} {v3 : Int32} {v5 : Int32} {v6 : Int32} {v7 : Int32} {p : Int32 × LH} (h : b_X11_holds_287 N A v0 v1 v3 v5 v6 v7 = some p) : V g m_X11_holds 2 n0 z0 (some (LI p.1)) p.2 A 287 [some (LR v0), some (LI v1), none, some (LI v3), none, some (LI v5), some (LI v6), some (LI v7)] [] := by
  unfold b_X11_holds_287 at h
  refine V.iconst dX11_holds_287 ki_0 ?_
  refine V.weak [true, true, false, true, false, true, true, true] ?_
  exact wb_X11_holds_288 N h
def b_X11_holds_315 (N : Nat) (A : LH) (v0 : Option Nat) (v1 : Int32) (v3 : Int32) (v5 : Int32) (v6 : Int32) (v7 : Int32) (s0 : Int32) : Option (Int32 × LH) :=
  b_X11_holds_320 N A v0 v1 v3 v5 v6 v7 s0
set_option maxRecDepth 4000 in
theorem wb_X11_holds_315 {g : GG} {n0 z0 : Nat} (N : Nat) {A : LH} {v0 : Option Nat} {v1 : Int32} {v3 : Int32} {v5 : Int32} {v6 : Int32} {v7 : Int32} {s0 : Int32} {p : Int32 × LH} (h : b_X11_holds_315 N A v0 v1 v3 v5 v6 v7 s0 = some p) : V g m_X11_holds 2 n0 z0 (some (LI p.1)) p.2 A 315 [some (LR v0), some (LI v1), none, some (LI v3), none, some (LI v5), some (LI v6), some (LI v7)] [LI s0] := by
  unfold b_X11_holds_315 at h
  refine V.istore (ls' := [some (LR v0), some (LI v1), none, some (LI v3), none, some (LI v5), some (LI v6), some (LI v7), none, none, some (LI s0)]) dX11_holds_315 (by decide) rfl rfl ?_
  refine V.goto (tgt := 320) dX11_holds_317 (by decide) ?_
  refine V.weak [true, true, false, true, false, true, true, true, false, false, true] ?_
  exact wb_X11_holds_320 N h
def b_X11_holds_314 (N : Nat) (A : LH) (v0 : Option Nat) (v1 : Int32) (v3 : Int32) (v5 : Int32) (v6 : Int32) (v7 : Int32) : Option (Int32 × LH) :=
  b_X11_holds_315 N A v0 v1 v3 v5 v6 v7 (0 : Int32)
set_option maxRecDepth 4000 in
theorem wb_X11_holds_314 {g : GG} {n0 z0 : Nat} (N : Nat) {A : LH} {v0 : Option Nat} {v1 : Int32} {v3 : Int32} {v5 : Int32} {v6 : Int32} {v7 : Int32} {p : Int32 × LH} (h : b_X11_holds_314 N A v0 v1 v3 v5 v6 v7 = some p) : V g m_X11_holds 2 n0 z0 (some (LI p.1)) p.2 A 314 [some (LR v0), some (LI v1), none, some (LI v3), none, some (LI v5), some (LI v6), some (LI v7)] [] := by
  unfold b_X11_holds_314 at h
  refine V.iconst dX11_holds_314 ki_0 ?_
  refine V.weak [true, true, false, true, false, true, true, true] ?_
  exact wb_X11_holds_315 N h
def b_X11_holds_210 (N : Nat) (A : LH) (v0 : Option Nat) (v1 : Int32) (v3 : Int32) (v5 : Int32) (v6 : Int32) (v7 : Int32) (v9 : Int32) (v10 : Int32) : Option (Int32 × LH) :=
  (gR A v0 11 15).bind fun x20 => (aI A x20 0 (v7 + (4 : Int32))).bind fun x22 => if x22 = 1 then if v10 = 0 then b_X11_holds_265 N A v0 v1 v3 v5 v6 v7 else (gR A v0 11 7).bind fun x40 => (aI A x40 0 v5).bind fun x42 => if x42 = v9 then b_X11_holds_266 N A v0 v1 v3 v5 v6 v7 (1 : Int32) else b_X11_holds_265 N A v0 v1 v3 v5 v6 v7 else if x22 = 2 then if v10 = 0 then b_X11_holds_287 N A v0 v1 v3 v5 v6 v7 else if v5 = v9 then b_X11_holds_288 N A v0 v1 v3 v5 v6 v7 (1 : Int32) else b_X11_holds_287 N A v0 v1 v3 v5 v6 v7 else if x22 = 3 then if v10 = 0 then b_X11_holds_314 N A v0 v1 v3 v5 v6 v7 else (gR A v0 11 8).bind fun x50 => (aI A x50 0 v5).bind fun x52 => if x52 < v9 then b_X11_holds_314 N A v0 v1 v3 v5 v6 v7 else b_X11_holds_315 N A v0 v1 v3 v5 v6 v7 (1 : Int32) else b_X11_holds_320 N A v0 v1 v3 v5 v6 v7 v10
set_option maxRecDepth 4000 in
theorem wb_X11_holds_210 {g : GG} {n0 z0 : Nat} (N : Nat) {A : LH} {v0 : Option Nat} {v1 : Int32} {v3 : Int32} {v5 : Int32} {v6 : Int32} {v7 : Int32} {v9 : Int32} {v10 : Int32} {p : Int32 × LH} (h : b_X11_holds_210 N A v0 v1 v3 v5 v6 v7 v9 v10 = some p) : V g m_X11_holds 2 n0 z0 (some (LI p.1)) p.2 A 210 [some (LR v0), some (LI v1), none, some (LI v3), none, some (LI v5), some (LI v6), some (LI v7), none, some (LI v9), some (LI v10)] [] := by
  unfold b_X11_holds_210 at h
  refine V.aload_n dX11_holds_210 rfl rfl ?_
  obtain ⟨x20, h21, h⟩ := bnd h
  refine V.getF (gR_F h21) CF11 (Nat.le_of_ble_eq_true rfl) fl_RX11_50 dX11_holds_211 ?_
  refine V.iload dX11_holds_214 rfl ?_
  refine V.iconst dX11_holds_216 ki_4 ?_
  refine V.iadd dX11_holds_217 ?_
  obtain ⟨x22, h23, h⟩ := bnd h
  refine V.iald h23 dX11_holds_218 ?_
  by_cases c24 : x22 = 1
  · have h := (if_pos c24).symm.trans h
    refine V.tableIn (tgt := 244) (off := 25) dX11_holds_219 (by rw [c24]; decide) (by rw [c24]; decide) (by rw [c24]; decide) (by decide) ?_
    refine V.iload dX11_holds_244 rfl ?_
    refine V.if_eq (tgt := 265) dX11_holds_246 (by decide) (fun c25 => ?_) (fun c25 => ?_)
    · have h := (if_pos c25).symm.trans h
      refine V.weak [true, true, false, true, false, true, true, true] ?_
      exact wb_X11_holds_265 N h
    · have h := (if_neg c25).symm.trans h
      refine V.aload_n dX11_holds_249 rfl rfl ?_
      obtain ⟨x40, h41, h⟩ := bnd h
      refine V.getF (gR_F h41) CF11 (Nat.le_of_ble_eq_true rfl) fl_RX11_26 dX11_holds_250 ?_
      refine V.iload dX11_holds_253 rfl ?_
      obtain ⟨x42, h43, h⟩ := bnd h
      refine V.iald h43 dX11_holds_255 ?_
      refine V.iload dX11_holds_256 rfl ?_
      refine V.icmp_ne (tgt := 265) dX11_holds_258 (by decide) (fun c44 => ?_) (fun c44 => ?_)
      · have h := (if_neg c44).symm.trans h
        refine V.weak [true, true, false, true, false, true, true, true] ?_
        exact wb_X11_holds_265 N h
      · have h := (if_pos c44).symm.trans h
        refine V.iconst dX11_holds_261 ki_1 ?_
        refine V.goto (tgt := 266) dX11_holds_262 (by decide) ?_
        refine V.weak [true, true, false, true, false, true, true, true] ?_
        exact wb_X11_holds_266 N h
  have h := (if_neg c24).symm.trans h
  by_cases c45 : x22 = 2
  · have h := (if_pos c45).symm.trans h
    refine V.tableIn (tgt := 271) (off := 52) dX11_holds_219 (by rw [c45]; decide) (by rw [c45]; decide) (by rw [c45]; decide) (by decide) ?_
    refine V.iload dX11_holds_271 rfl ?_
    refine V.if_eq (tgt := 287) dX11_holds_273 (by decide) (fun c46 => ?_) (fun c46 => ?_)
    · have h := (if_pos c46).symm.trans h
      refine V.weak [true, true, false, true, false, true, true, true] ?_
      exact wb_X11_holds_287 N h
    · have h := (if_neg c46).symm.trans h
      refine V.iload dX11_holds_276 rfl ?_
      refine V.iload dX11_holds_278 rfl ?_
      refine V.icmp_ne (tgt := 287) dX11_holds_280 (by decide) (fun c47 => ?_) (fun c47 => ?_)
      · have h := (if_neg c47).symm.trans h
        refine V.weak [true, true, false, true, false, true, true, true] ?_
        exact wb_X11_holds_287 N h
      · have h := (if_pos c47).symm.trans h
        refine V.iconst dX11_holds_283 ki_1 ?_
        refine V.goto (tgt := 288) dX11_holds_284 (by decide) ?_
        refine V.weak [true, true, false, true, false, true, true, true] ?_
        exact wb_X11_holds_288 N h
  have h := (if_neg c45).symm.trans h
  by_cases c48 : x22 = 3
  · have h := (if_pos c48).symm.trans h
    refine V.tableIn (tgt := 293) (off := 74) dX11_holds_219 (by rw [c48]; decide) (by rw [c48]; decide) (by rw [c48]; decide) (by decide) ?_
    refine V.iload dX11_holds_293 rfl ?_
    refine V.if_eq (tgt := 314) dX11_holds_295 (by decide) (fun c49 => ?_) (fun c49 => ?_)
    · have h := (if_pos c49).symm.trans h
      refine V.weak [true, true, false, true, false, true, true, true] ?_
      exact wb_X11_holds_314 N h
    · have h := (if_neg c49).symm.trans h
      refine V.aload_n dX11_holds_298 rfl rfl ?_
      obtain ⟨x50, h51, h⟩ := bnd h
      refine V.getF (gR_F h51) CF11 (Nat.le_of_ble_eq_true rfl) fl_RX11_29 dX11_holds_299 ?_
      refine V.iload dX11_holds_302 rfl ?_
      obtain ⟨x52, h53, h⟩ := bnd h
      refine V.iald h53 dX11_holds_304 ?_
      refine V.iload dX11_holds_305 rfl ?_
      refine V.icmp_lt (tgt := 314) dX11_holds_307 (by decide) (fun c54 => ?_) (fun c54 => ?_)
      · have h := (if_pos c54).symm.trans h
        refine V.weak [true, true, false, true, false, true, true, true] ?_
        exact wb_X11_holds_314 N h
      · have h := (if_neg c54).symm.trans h
        refine V.iconst dX11_holds_310 ki_1 ?_
        refine V.goto (tgt := 315) dX11_holds_311 (by decide) ?_
        refine V.weak [true, true, false, true, false, true, true, true] ?_
        exact wb_X11_holds_315 N h
  have h := (if_neg c48).symm.trans h
  refine V.tableOut (tgt := 320) dX11_holds_219 (sw_out (n := 3) [1, 2, 3] (by decide) (List.forall_mem_cons.mpr ⟨c24, List.forall_mem_cons.mpr ⟨c45, List.forall_mem_cons.mpr ⟨c48, fun _ z => nomatch z⟩⟩⟩)) (by decide) ?_
  refine V.weak [true, true, false, true, false, true, true, true, false, false, true] ?_
  exact wb_X11_holds_320 N h
def b_X11_holds_132 (N : Nat) (A : LH) (v0 : Option Nat) (v1 : Int32) (v3 : Int32) (v5 : Int32) (v6 : Int32) (v7 : Int32) (v9 : Int32) (s0 : Int32) : Option (Int32 × LH) :=
  b_X11_holds_210 N A v0 v1 v3 v5 v6 v7 v9 s0
set_option maxRecDepth 4000 in
theorem wb_X11_holds_132 {g : GG} {n0 z0 : Nat} (N : Nat) {A : LH} {v0 : Option Nat} {v1 : Int32} {v3 : Int32} {v5 : Int32} {v6 : Int32} {v7 : Int32} {v9 : Int32} {s0 : Int32} {p : Int32 × LH} (h : b_X11_holds_132 N A v0 v1 v3 v5 v6 v7 v9 s0 = some p) : V g m_X11_holds 2 n0 z0 (some (LI p.1)) p.2 A 132 [some (LR v0), some (LI v1), none, some (LI v3), none, some (LI v5), some (LI v6), some (LI v7), none, some (LI v9)] [LI s0] := by
  unfold b_X11_holds_132 at h
  refine V.istore (ls' := [some (LR v0), some (LI v1), none, some (LI v3), none, some (LI v5), some (LI v6), some (LI v7), none, some (LI v9), some (LI s0)]) dX11_holds_132 (by decide) rfl rfl ?_
  refine V.goto (tgt := 210) dX11_holds_134 (by decide) ?_
  refine V.weak [true, true, false, true, false, true, true, true, false, true, true] ?_
  exact wb_X11_holds_210 N h
def b_X11_holds_131 (N : Nat) (A : LH) (v0 : Option Nat) (v1 : Int32) (v3 : Int32) (v5 : Int32) (v6 : Int32) (v7 : Int32) (v9 : Int32) : Option (Int32 × LH) :=
  b_X11_holds_132 N A v0 v1 v3 v5 v6 v7 v9 (0 : Int32)
set_option maxRecDepth 4000 in
theorem wb_X11_holds_131 {g : GG} {n0 z0 : Nat} (N : Nat) {A : LH} {v0 : Option Nat} {v1 : Int32} {v3 : Int32} {v5 : Int32} {v6 : Int32} {v7 : Int32} {v9 : Int32} {p : Int32 × LH} (h : b_X11_holds_131 N A v0 v1 v3 v5 v6 v7 v9 = some p) : V g m_X11_holds 2 n0 z0 (some (LI p.1)) p.2 A 131 [some (LR v0), some (LI v1), none, some (LI v3), none, some (LI v5), some (LI v6), some (LI v7), none, some (LI v9)] [] := by
  unfold b_X11_holds_131 at h
  refine V.iconst dX11_holds_131 ki_0 ?_
  refine V.weak [true, true, false, true, false, true, true, true, false, true] ?_
  exact wb_X11_holds_132 N h
def b_X11_holds_153 (N : Nat) (A : LH) (v0 : Option Nat) (v1 : Int32) (v3 : Int32) (v5 : Int32) (v6 : Int32) (v7 : Int32) (v9 : Int32) (s0 : Int32) : Option (Int32 × LH) :=
  b_X11_holds_210 N A v0 v1 v3 v5 v6 v7 v9 s0
set_option maxRecDepth 4000 in
theorem wb_X11_holds_153 {g : GG} {n0 z0 : Nat} (N : Nat) {A : LH} {v0 : Option Nat} {v1 : Int32} {v3 : Int32} {v5 : Int32} {v6 : Int32} {v7 : Int32} {v9 : Int32} {s0 : Int32} {p : Int32 × LH} (h : b_X11_holds_153 N A v0 v1 v3 v5 v6 v7 v9 s0 = some p) : V g m_X11_holds 2 n0 z0 (some (LI p.1)) p.2 A 153 [some (LR v0), some (LI v1), none, some (LI v3), none, some (LI v5), some (LI v6), some (LI v7), none, some (LI v9)] [LI s0] := by
  unfold b_X11_holds_153 at h
  refine V.istore (ls' := [some (LR v0), some (LI v1), none, some (LI v3), none, some (LI v5), some (LI v6), some (LI v7), none, some (LI v9), some (LI s0)]) dX11_holds_153 (by decide) rfl rfl ?_
  refine V.goto (tgt := 210) dX11_holds_155 (by decide) ?_
  refine V.weak [true, true, false, true, false, true, true, true, false, true, true] ?_
  exact wb_X11_holds_210 N h
def b_X11_holds_152 (N : Nat) (A : LH) (v0 : Option Nat) (v1 : Int32) (v3 : Int32) (v5 : Int32) (v6 : Int32) (v7 : Int32) (v9 : Int32) : Option (Int32 × LH) :=
  b_X11_holds_153 N A v0 v1 v3 v5 v6 v7 v9 (0 : Int32)
set_option maxRecDepth 4000 in
theorem wb_X11_holds_152 {g : GG} {n0 z0 : Nat} (N : Nat) {A : LH} {v0 : Option Nat} {v1 : Int32} {v3 : Int32} {v5 : Int32} {v6 : Int32} {v7 : Int32} {v9 : Int32} {p : Int32 × LH} (h : b_X11_holds_152 N A v0 v1 v3 v5 v6 v7 v9 = some p) : V g m_X11_holds 2 n0 z0 (some (LI p.1)) p.2 A 152 [some (LR v0), some (LI v1), none, some (LI v3), none, some (LI v5), some (LI v6), some (LI v7), none, some (LI v9)] [] := by
  unfold b_X11_holds_152 at h
  refine V.iconst dX11_holds_152 ki_0 ?_
  refine V.weak [true, true, false, true, false, true, true, true, false, true] ?_
  exact wb_X11_holds_153 N h
def b_X11_holds_179 (N : Nat) (A : LH) (v0 : Option Nat) (v1 : Int32) (v3 : Int32) (v5 : Int32) (v6 : Int32) (v7 : Int32) (v9 : Int32) (s0 : Int32) : Option (Int32 × LH) :=
  b_X11_holds_210 N A v0 v1 v3 v5 v6 v7 v9 s0
set_option maxRecDepth 4000 in
theorem wb_X11_holds_179 {g : GG} {n0 z0 : Nat} (N : Nat) {A : LH} {v0 : Option Nat} {v1 : Int32} {v3 : Int32} {v5 : Int32} {v6 : Int32} {v7 : Int32} {v9 : Int32} {s0 : Int32} {p : Int32 × LH} (h : b_X11_holds_179 N A v0 v1 v3 v5 v6 v7 v9 s0 = some p) : V g m_X11_holds 2 n0 z0 (some (LI p.1)) p.2 A 179 [some (LR v0), some (LI v1), none, some (LI v3), none, some (LI v5), some (LI v6), some (LI v7), none, some (LI v9)] [LI s0] := by
  unfold b_X11_holds_179 at h
  refine V.istore (ls' := [some (LR v0), some (LI v1), none, some (LI v3), none, some (LI v5), some (LI v6), some (LI v7), none, some (LI v9), some (LI s0)]) dX11_holds_179 (by decide) rfl rfl ?_
  refine V.goto (tgt := 210) dX11_holds_181 (by decide) ?_
  refine V.weak [true, true, false, true, false, true, true, true, false, true, true] ?_
  exact wb_X11_holds_210 N h
def b_X11_holds_178 (N : Nat) (A : LH) (v0 : Option Nat) (v1 : Int32) (v3 : Int32) (v5 : Int32) (v6 : Int32) (v7 : Int32) (v9 : Int32) : Option (Int32 × LH) :=
  b_X11_holds_179 N A v0 v1 v3 v5 v6 v7 v9 (0 : Int32)
set_option maxRecDepth 4000 in
theorem wb_X11_holds_178 {g : GG} {n0 z0 : Nat} (N : Nat) {A : LH} {v0 : Option Nat} {v1 : Int32} {v3 : Int32} {v5 : Int32} {v6 : Int32} {v7 : Int32} {v9 : Int32} {p : Int32 × LH} (h : b_X11_holds_178 N A v0 v1 v3 v5 v6 v7 v9 = some p) : V g m_X11_holds 2 n0 z0 (some (LI p.1)) p.2 A 178 [some (LR v0), some (LI v1), none, some (LI v3), none, some (LI v5), some (LI v6), some (LI v7), none, some (LI v9)] [] := by
  unfold b_X11_holds_178 at h
  refine V.iconst dX11_holds_178 ki_0 ?_
  refine V.weak [true, true, false, true, false, true, true, true, false, true] ?_
  exact wb_X11_holds_179 N h
def b_X11_holds_205 (N : Nat) (A : LH) (v0 : Option Nat) (v1 : Int32) (v3 : Int32) (v5 : Int32) (v6 : Int32) (v7 : Int32) (v9 : Int32) (s0 : Int32) : Option (Int32 × LH) :=
  b_X11_holds_210 N A v0 v1 v3 v5 v6 v7 v9 s0
set_option maxRecDepth 4000 in
theorem wb_X11_holds_205 {g : GG} {n0 z0 : Nat} (N : Nat) {A : LH} {v0 : Option Nat} {v1 : Int32} {v3 : Int32} {v5 : Int32} {v6 : Int32} {v7 : Int32} {v9 : Int32} {s0 : Int32} {p : Int32 × LH} (h : b_X11_holds_205 N A v0 v1 v3 v5 v6 v7 v9 s0 = some p) : V g m_X11_holds 2 n0 z0 (some (LI p.1)) p.2 A 205 [some (LR v0), some (LI v1), none, some (LI v3), none, some (LI v5), some (LI v6), some (LI v7), none, some (LI v9)] [LI s0] := by
  unfold b_X11_holds_205 at h
  refine V.istore (ls' := [some (LR v0), some (LI v1), none, some (LI v3), none, some (LI v5), some (LI v6), some (LI v7), none, some (LI v9), some (LI s0)]) dX11_holds_205 (by decide) rfl rfl ?_
  refine V.goto (tgt := 210) dX11_holds_207 (by decide) ?_
  refine V.weak [true, true, false, true, false, true, true, true, false, true, true] ?_
  exact wb_X11_holds_210 N h
def b_X11_holds_204 (N : Nat) (A : LH) (v0 : Option Nat) (v1 : Int32) (v3 : Int32) (v5 : Int32) (v6 : Int32) (v7 : Int32) (v9 : Int32) : Option (Int32 × LH) :=
  b_X11_holds_205 N A v0 v1 v3 v5 v6 v7 v9 (0 : Int32)
set_option maxRecDepth 4000 in
theorem wb_X11_holds_204 {g : GG} {n0 z0 : Nat} (N : Nat) {A : LH} {v0 : Option Nat} {v1 : Int32} {v3 : Int32} {v5 : Int32} {v6 : Int32} {v7 : Int32} {v9 : Int32} {p : Int32 × LH} (h : b_X11_holds_204 N A v0 v1 v3 v5 v6 v7 v9 = some p) : V g m_X11_holds 2 n0 z0 (some (LI p.1)) p.2 A 204 [some (LR v0), some (LI v1), none, some (LI v3), none, some (LI v5), some (LI v6), some (LI v7), none, some (LI v9)] [] := by
  unfold b_X11_holds_204 at h
  refine V.iconst dX11_holds_204 ki_0 ?_
  refine V.weak [true, true, false, true, false, true, true, true, false, true] ?_
  exact wb_X11_holds_205 N h
def b_X11_holds_65 (N : Nat) (A : LH) (v0 : Option Nat) (v1 : Int32) (v3 : Int32) (v5 : Int32) (v6 : Int32) (v7 : Int32) (v8 : Int32) (v9 : Int32) (s0 : Int32) : Option (Int32 × LH) :=
  (gR A v0 11 15).bind fun x14 => (aI A x14 0 (v7 + (1 : Int32))).bind fun x16 => if x16 = 1 then if s0 = 0 then b_X11_holds_131 N A v0 v1 v3 v5 v6 v7 v9 else (gR A v0 11 4).bind fun x55 => (aI A x55 0 v3).bind fun x57 => if ((x57 >>> (v8 &&& 31)) &&& (1 : Int32)) = 0 then b_X11_holds_131 N A v0 v1 v3 v5 v6 v7 v9 else b_X11_holds_132 N A v0 v1 v3 v5 v6 v7 v9 (1 : Int32) else if x16 = 2 then if s0 = 0 then b_X11_holds_152 N A v0 v1 v3 v5 v6 v7 v9 else if v3 = v8 then b_X11_holds_153 N A v0 v1 v3 v5 v6 v7 v9 (1 : Int32) else b_X11_holds_152 N A v0 v1 v3 v5 v6 v7 v9 else if x16 = 3 then if s0 = 0 then b_X11_holds_178 N A v0 v1 v3 v5 v6 v7 v9 else (gR A v0 11 9).bind fun x65 => (aI A x65 0 v5).bind fun x67 => if x67 = v3 then b_X11_holds_179 N A v0 v1 v3 v5 v6 v7 v9 (1 : Int32) else b_X11_holds_178 N A v0 v1 v3 v5 v6 v7 v9 else if x16 = 4 then if s0 = 0 then b_X11_holds_204 N A v0 v1 v3 v5 v6 v7 v9 else (gR A v0 11 5).bind fun x72 => (aI A x72 0 v3).bind fun x74 => if x74 < v8 then b_X11_holds_204 N A v0 v1 v3 v5 v6 v7 v9 else b_X11_holds_205 N A v0 v1 v3 v5 v6 v7 v9 (1 : Int32) else b_X11_holds_210 N A v0 v1 v3 v5 v6 v7 v9 s0
set_option maxRecDepth 4000 in
theorem wb_X11_holds_65 {g : GG} {n0 z0 : Nat} (N : Nat) {A : LH} {v0 : Option Nat} {v1 : Int32} {v3 : Int32} {v5 : Int32} {v6 : Int32} {v7 : Int32} {v8 : Int32} {v9 : Int32} {s0 : Int32} {p : Int32 × LH} (h : b_X11_holds_65 N A v0 v1 v3 v5 v6 v7 v8 v9 s0 = some p) : V g m_X11_holds 2 n0 z0 (some (LI p.1)) p.2 A 65 [some (LR v0), some (LI v1), none, some (LI v3), none, some (LI v5), some (LI v6), some (LI v7), some (LI v8), some (LI v9)] [LI s0] := by
  unfold b_X11_holds_65 at h
  refine V.istore (ls' := [some (LR v0), some (LI v1), none, some (LI v3), none, some (LI v5), some (LI v6), some (LI v7), some (LI v8), some (LI v9), some (LI s0)]) dX11_holds_65 (by decide) rfl rfl ?_
  refine V.aload_n dX11_holds_67 rfl rfl ?_
  obtain ⟨x14, h15, h⟩ := bnd h
  refine V.getF (gR_F h15) CF11 (Nat.le_of_ble_eq_true rfl) fl_RX11_50 dX11_holds_68 ?_
  refine V.iload dX11_holds_71 rfl ?_
  refine V.iconst dX11_holds_73 ki_1 ?_
  refine V.iadd dX11_holds_74 ?_
  obtain ⟨x16, h17, h⟩ := bnd h
  refine V.iald h17 dX11_holds_75 ?_
  by_cases c18 : x16 = 1
  · have h := (if_pos c18).symm.trans h
    refine V.tableIn (tgt := 108) (off := 32) dX11_holds_76 (by rw [c18]; decide) (by rw [c18]; decide) (by rw [c18]; decide) (by decide) ?_
    refine V.iload dX11_holds_108 rfl ?_
    refine V.if_eq (tgt := 131) dX11_holds_110 (by decide) (fun c19 => ?_) (fun c19 => ?_)
    · have h := (if_pos c19).symm.trans h
      refine V.weak [true, true, false, true, false, true, true, true, false, true] ?_
      exact wb_X11_holds_131 N h
    · have h := (if_neg c19).symm.trans h
      refine V.aload_n dX11_holds_113 rfl rfl ?_
      obtain ⟨x55, h56, h⟩ := bnd h
      refine V.getF (gR_F h56) CF11 (Nat.le_of_ble_eq_true rfl) fl_RX11_17 dX11_holds_114 ?_
      refine V.iload_n dX11_holds_117 rfl rfl ?_
      obtain ⟨x57, h58, h⟩ := bnd h
      refine V.iald h58 dX11_holds_118 ?_
      refine V.iload dX11_holds_119 rfl ?_
      refine V.ishr dX11_holds_121 ?_
      refine V.iconst dX11_holds_122 ki_1 ?_
      refine V.iand dX11_holds_123 ?_
      refine V.if_eq (tgt := 131) dX11_holds_124 (by decide) (fun c59 => ?_) (fun c59 => ?_)
      · have h := (if_pos c59).symm.trans h
        refine V.weak [true, true, false, true, false, true, true, true, false, true] ?_
        exact wb_X11_holds_131 N h
      · have h := (if_neg c59).symm.trans h
        refine V.iconst dX11_holds_127 ki_1 ?_
        refine V.goto (tgt := 132) dX11_holds_128 (by decide) ?_
        refine V.weak [true, true, false, true, false, true, true, true, false, true] ?_
        exact wb_X11_holds_132 N h
  have h := (if_neg c18).symm.trans h
  by_cases c60 : x16 = 2
  · have h := (if_pos c60).symm.trans h
    refine V.tableIn (tgt := 137) (off := 61) dX11_holds_76 (by rw [c60]; decide) (by rw [c60]; decide) (by rw [c60]; decide) (by decide) ?_
    refine V.iload dX11_holds_137 rfl ?_
    refine V.if_eq (tgt := 152) dX11_holds_139 (by decide) (fun c61 => ?_) (fun c61 => ?_)
    · have h := (if_pos c61).symm.trans h
      refine V.weak [true, true, false, true, false, true, true, true, false, true] ?_
      exact wb_X11_holds_152 N h
    · have h := (if_neg c61).symm.trans h
      refine V.iload_n dX11_holds_142 rfl rfl ?_
      refine V.iload dX11_holds_143 rfl ?_
      refine V.icmp_ne (tgt := 152) dX11_holds_145 (by decide) (fun c62 => ?_) (fun c62 => ?_)
      · have h := (if_neg c62).symm.trans h
        refine V.weak [true, true, false, true, false, true, true, true, false, true] ?_
        exact wb_X11_holds_152 N h
      · have h := (if_pos c62).symm.trans h
        refine V.iconst dX11_holds_148 ki_1 ?_
        refine V.goto (tgt := 153) dX11_holds_149 (by decide) ?_
        refine V.weak [true, true, false, true, false, true, true, true, false, true] ?_
        exact wb_X11_holds_153 N h
  have h := (if_neg c60).symm.trans h
  by_cases c63 : x16 = 3
  · have h := (if_pos c63).symm.trans h
    refine V.tableIn (tgt := 158) (off := 82) dX11_holds_76 (by rw [c63]; decide) (by rw [c63]; decide) (by rw [c63]; decide) (by decide) ?_
    refine V.iload dX11_holds_158 rfl ?_
    refine V.if_eq (tgt := 178) dX11_holds_160 (by decide) (fun c64 => ?_) (fun c64 => ?_)
    · have h := (if_pos c64).symm.trans h
      refine V.weak [true, true, false, true, false, true, true, true, false, true] ?_
      exact wb_X11_holds_178 N h
    · have h := (if_neg c64).symm.trans h
      refine V.aload_n dX11_holds_163 rfl rfl ?_
      obtain ⟨x65, h66, h⟩ := bnd h
      refine V.getF (gR_F h66) CF11 (Nat.le_of_ble_eq_true rfl) fl_RX11_32 dX11_holds_164 ?_
      refine V.iload dX11_holds_167 rfl ?_
      obtain ⟨x67, h68, h⟩ := bnd h
      refine V.iald h68 dX11_holds_169 ?_
      refine V.iload_n dX11_holds_170 rfl rfl ?_
      refine V.icmp_ne (tgt := 178) dX11_holds_171 (by decide) (fun c69 => ?_) (fun c69 => ?_)
      · have h := (if_neg c69).symm.trans h
        refine V.weak [true, true, false, true, false, true, true, true, false, true] ?_
        exact wb_X11_holds_178 N h
      · have h := (if_pos c69).symm.trans h
        refine V.iconst dX11_holds_174 ki_1 ?_
        refine V.goto (tgt := 179) dX11_holds_175 (by decide) ?_
        refine V.weak [true, true, false, true, false, true, true, true, false, true] ?_
        exact wb_X11_holds_179 N h
  have h := (if_neg c63).symm.trans h
  by_cases c70 : x16 = 4
  · have h := (if_pos c70).symm.trans h
    refine V.tableIn (tgt := 184) (off := 108) dX11_holds_76 (by rw [c70]; decide) (by rw [c70]; decide) (by rw [c70]; decide) (by decide) ?_
    refine V.iload dX11_holds_184 rfl ?_
    refine V.if_eq (tgt := 204) dX11_holds_186 (by decide) (fun c71 => ?_) (fun c71 => ?_)
    · have h := (if_pos c71).symm.trans h
      refine V.weak [true, true, false, true, false, true, true, true, false, true] ?_
      exact wb_X11_holds_204 N h
    · have h := (if_neg c71).symm.trans h
      refine V.aload_n dX11_holds_189 rfl rfl ?_
      obtain ⟨x72, h73, h⟩ := bnd h
      refine V.getF (gR_F h73) CF11 (Nat.le_of_ble_eq_true rfl) fl_RX11_20 dX11_holds_190 ?_
      refine V.iload_n dX11_holds_193 rfl rfl ?_
      obtain ⟨x74, h75, h⟩ := bnd h
      refine V.iald h75 dX11_holds_194 ?_
      refine V.iload dX11_holds_195 rfl ?_
      refine V.icmp_lt (tgt := 204) dX11_holds_197 (by decide) (fun c76 => ?_) (fun c76 => ?_)
      · have h := (if_pos c76).symm.trans h
        refine V.weak [true, true, false, true, false, true, true, true, false, true] ?_
        exact wb_X11_holds_204 N h
      · have h := (if_neg c76).symm.trans h
        refine V.iconst dX11_holds_200 ki_1 ?_
        refine V.goto (tgt := 205) dX11_holds_201 (by decide) ?_
        refine V.weak [true, true, false, true, false, true, true, true, false, true] ?_
        exact wb_X11_holds_205 N h
  have h := (if_neg c70).symm.trans h
  refine V.tableOut (tgt := 210) dX11_holds_76 (sw_out (n := 4) [1, 2, 3, 4] (by decide) (List.forall_mem_cons.mpr ⟨c18, List.forall_mem_cons.mpr ⟨c60, List.forall_mem_cons.mpr ⟨c63, List.forall_mem_cons.mpr ⟨c70, fun _ z => nomatch z⟩⟩⟩⟩)) (by decide) ?_
  refine V.weak [true, true, false, true, false, true, true, true, false, true, true] ?_
  exact wb_X11_holds_210 N h
def b_X11_holds_60 (N : Nat) (A : LH) (v0 : Option Nat) (v1 : Int32) (v3 : Int32) (v5 : Int32) (v6 : Int32) (v7 : Int32) (v8 : Int32) (v9 : Int32) : Option (Int32 × LH) :=
  b_X11_holds_65 N A v0 v1 v3 v5 v6 v7 v8 v9 (1 : Int32)
set_option maxRecDepth 4000 in
theorem wb_X11_holds_60 {g : GG} {n0 z0 : Nat} (N : Nat) {A : LH} {v0 : Option Nat} {v1 : Int32} {v3 : Int32} {v5 : Int32} {v6 : Int32} {v7 : Int32} {v8 : Int32} {v9 : Int32} {p : Int32 × LH} (h : b_X11_holds_60 N A v0 v1 v3 v5 v6 v7 v8 v9 = some p) : V g m_X11_holds 2 n0 z0 (some (LI p.1)) p.2 A 60 [some (LR v0), some (LI v1), none, some (LI v3), none, some (LI v5), some (LI v6), some (LI v7), some (LI v8), some (LI v9)] [] := by
  unfold b_X11_holds_60 at h
  refine V.iconst dX11_holds_60 ki_1 ?_
  refine V.goto (tgt := 65) dX11_holds_61 (by decide) ?_
  refine V.weak [true, true, false, true, false, true, true, true, true, true] ?_
  exact wb_X11_holds_65 N h
def b_X11_holds (N : Nat) (A : LH) (v0 : Option Nat) (v1 : Int32) (v2 : Int32) (v3 : Int32) (v4 : Int32) (v5 : Int32) (v6 : Int32) : Option (Int32 × LH) :=
  (gR A v0 11 15).bind fun x1 => (aI A x1 0 (((8 : Int32) * (((12 : Int32) * v1) + v2)) + (2 : Int32))).bind fun x3 => (gR A v0 11 15).bind fun x5 => (aI A x5 0 (((8 : Int32) * (((12 : Int32) * v1) + v2)) + (5 : Int32))).bind fun x7 => (gR A v0 11 15).bind fun x9 => (aI A x9 0 (((8 : Int32) * (((12 : Int32) * v1) + v2)) + (3 : Int32))).bind fun x11 => if x11 = (4 : Int32) then b_X11_holds_60 N A v0 v1 v3 v5 v6 ((8 : Int32) * (((12 : Int32) * v1) + v2)) x3 x7 else (gR A v0 11 15).bind fun x77 => (aI A x77 0 (((8 : Int32) * (((12 : Int32) * v1) + v2)) + (3 : Int32))).bind fun x79 => if x79 = v4 then b_X11_holds_60 N A v0 v1 v3 v5 v6 ((8 : Int32) * (((12 : Int32) * v1) + v2)) x3 x7 else b_X11_holds_65 N A v0 v1 v3 v5 v6 ((8 : Int32) * (((12 : Int32) * v1) + v2)) x3 x7 (0 : Int32)
set_option maxRecDepth 4000 in
theorem wb_X11_holds {g : GG} {n0 z0 : Nat} (N : Nat) {A : LH} {v0 : Option Nat} {v1 : Int32} {v2 : Int32} {v3 : Int32} {v4 : Int32} {v5 : Int32} {v6 : Int32} {p : Int32 × LH} (h : b_X11_holds N A v0 v1 v2 v3 v4 v5 v6 = some p) : V g m_X11_holds 2 n0 z0 (some (LI p.1)) p.2 A 0 [some (LR v0), some (LI v1), some (LI v2), some (LI v3), some (LI v4), some (LI v5), some (LI v6)] [] := by
  unfold b_X11_holds at h
  refine V.bipush dX11_holds_0 kb_8 ?_
  refine V.bipush dX11_holds_2 kb_12 ?_
  refine V.iload_n dX11_holds_4 rfl rfl ?_
  refine V.imul dX11_holds_5 ?_
  refine V.iload_n dX11_holds_6 rfl rfl ?_
  refine V.iadd dX11_holds_7 ?_
  refine V.imul dX11_holds_8 ?_
  refine V.istore (ls' := [some (LR v0), some (LI v1), some (LI v2), some (LI v3), some (LI v4), some (LI v5), some (LI v6), some (LI ((8 : Int32) * (((12 : Int32) * v1) + v2)))]) dX11_holds_9 (by decide) rfl rfl ?_
  refine V.aload_n dX11_holds_11 rfl rfl ?_
  obtain ⟨x1, h2, h⟩ := bnd h
  refine V.getF (gR_F h2) CF11 (Nat.le_of_ble_eq_true rfl) fl_RX11_50 dX11_holds_12 ?_
  refine V.iload dX11_holds_15 rfl ?_
  refine V.iconst dX11_holds_17 ki_2 ?_
  refine V.iadd dX11_holds_18 ?_
  obtain ⟨x3, h4, h⟩ := bnd h
  refine V.iald h4 dX11_holds_19 ?_
  refine V.istore (ls' := [some (LR v0), some (LI v1), some (LI v2), some (LI v3), some (LI v4), some (LI v5), some (LI v6), some (LI ((8 : Int32) * (((12 : Int32) * v1) + v2))), some (LI x3)]) dX11_holds_20 (by decide) rfl rfl ?_
  refine V.aload_n dX11_holds_22 rfl rfl ?_
  obtain ⟨x5, h6, h⟩ := bnd h
  refine V.getF (gR_F h6) CF11 (Nat.le_of_ble_eq_true rfl) fl_RX11_50 dX11_holds_23 ?_
  refine V.iload dX11_holds_26 rfl ?_
  refine V.iconst dX11_holds_28 ki_5 ?_
  refine V.iadd dX11_holds_29 ?_
  obtain ⟨x7, h8, h⟩ := bnd h
  refine V.iald h8 dX11_holds_30 ?_
  refine V.istore (ls' := [some (LR v0), some (LI v1), some (LI v2), some (LI v3), some (LI v4), some (LI v5), some (LI v6), some (LI ((8 : Int32) * (((12 : Int32) * v1) + v2))), some (LI x3), some (LI x7)]) dX11_holds_31 (by decide) rfl rfl ?_
  refine V.aload_n dX11_holds_33 rfl rfl ?_
  obtain ⟨x9, h10, h⟩ := bnd h
  refine V.getF (gR_F h10) CF11 (Nat.le_of_ble_eq_true rfl) fl_RX11_50 dX11_holds_34 ?_
  refine V.iload dX11_holds_37 rfl ?_
  refine V.iconst dX11_holds_39 ki_3 ?_
  refine V.iadd dX11_holds_40 ?_
  obtain ⟨x11, h12, h⟩ := bnd h
  refine V.iald h12 dX11_holds_41 ?_
  refine V.iconst dX11_holds_42 ki_4 ?_
  refine V.icmp_eq (tgt := 60) dX11_holds_43 (by decide) (fun c13 => ?_) (fun c13 => ?_)
  · have h := (if_pos c13).symm.trans h
    refine V.weak [true, true, false, true, false, true, true, true, true, true] ?_
    exact wb_X11_holds_60 N h
  · have h := (if_neg c13).symm.trans h
    refine V.aload_n dX11_holds_46 rfl rfl ?_
    obtain ⟨x77, h78, h⟩ := bnd h
    refine V.getF (gR_F h78) CF11 (Nat.le_of_ble_eq_true rfl) fl_RX11_50 dX11_holds_47 ?_
    refine V.iload dX11_holds_50 rfl ?_
    refine V.iconst dX11_holds_52 ki_3 ?_
    refine V.iadd dX11_holds_53 ?_
    obtain ⟨x79, h80, h⟩ := bnd h
    refine V.iald h80 dX11_holds_54 ?_
    refine V.iload dX11_holds_55 rfl ?_
    refine V.icmp_ne (tgt := 64) dX11_holds_57 (by decide) (fun c81 => ?_) (fun c81 => ?_)
    · have h := (if_neg c81).symm.trans h
      refine V.iconst dX11_holds_64 ki_0 ?_
      refine V.weak [true, true, false, true, false, true, true, true, true, true] ?_
      exact wb_X11_holds_65 N h
    · have h := (if_pos c81).symm.trans h
      refine V.weak [true, true, false, true, false, true, true, true, true, true] ?_
      exact wb_X11_holds_60 N h
def f_X11_holds (N : Nat) (A : LH) (v0 : Option Nat) (v1 : Int32) (v2 : Int32) (v3 : Int32) (v4 : Int32) (v5 : Int32) (v6 : Int32) : Option (Int32 × LH) := if isO A v0 11 = true then zc (b_X11_holds N A v0 v1 v2 v3 v4 v5 v6) else none
theorem w_X11_holds {g : GG} (N : Nat) {A : LH} {v0 : Option Nat} {v1 : Int32} {v2 : Int32} {v3 : Int32} {v4 : Int32} {v5 : Int32} {v6 : Int32} {p : Int32 × LH} (h : f_X11_holds N A v0 v1 v2 v3 v4 v5 v6 = some p) : Ct g m_X11_holds 2 [LR v0, LI v1, LI v2, LI v3, LI v4, LI v5, LI v6] A (some (LI p.1)) p.2 := by
  unfold f_X11_holds at h
  obtain ⟨ho, h⟩ := ifN h
  obtain ⟨h, hz⟩ := zc_sp h
  exact ⟨wb_X11_holds N h, (RTz hz)⟩
theorem oo_X11_holds {N : Nat} {A : LH} {v0 : Option Nat} {v1 : Int32} {v2 : Int32} {v3 : Int32} {v4 : Int32} {v5 : Int32} {v6 : Int32} {p : Int32 × LH} (h : f_X11_holds N A v0 v1 v2 v3 v4 v5 v6 = some p) : isO A v0 11 = true := by unfold f_X11_holds at h; exact (ifN h).1
def b_X11_lets_39 (A : LH) (s0 : Int32) (s1 : Int32) : Option (Int32) :=
  if s1 = s0 then some (0 : Int32) else some (1 : Int32)
set_option maxRecDepth 4000 in
theorem wb_X11_lets_39 {g : GG} {n0 z0 : Nat} {A : LH} {s0 : Int32} {s1 : Int32} {p : Int32} (h : b_X11_lets_39 A s0 s1 = some p) : V g m_X11_lets 0 n0 z0 (some (LI p)) A A 39 [] [LI s0, LI s1] := by
  unfold b_X11_lets_39 at h
  refine V.icmp_eq (tgt := 46) dX11_lets_39 (by decide) (fun c9 => ?_) (fun c9 => ?_)
  · have h := (if_pos c9).symm.trans h
    refine V.iconst dX11_lets_46 ki_0 ?_
    obtain rfl := Option.some.inj h
    exact V.ireturn dX11_lets_47
  · have h := (if_neg c9).symm.trans h
    refine V.iconst dX11_lets_42 ki_1 ?_
    refine V.goto (tgt := 47) dX11_lets_43 (by decide) ?_
    obtain rfl := Option.some.inj h
    exact V.ireturn dX11_lets_47
def b_X11_lets_23 (A : LH) (v0 : Option Nat) (v2 : Int32) (s0 : Int32) : Option (Int32) :=
  (gI A v0 11 40).bind fun x6 => if ((x6 >>> (v2 &&& 31)) &&& (1 : Int32)) = 0 then b_X11_lets_39 A (0 : Int32) s0 else b_X11_lets_39 A (1 : Int32) s0
set_option maxRecDepth 4000 in
theorem wb_X11_lets_23 {g : GG} {n0 z0 : Nat} {A : LH} {v0 : Option Nat} {v2 : Int32} {s0 : Int32} {p : Int32} (h : b_X11_lets_23 A v0 v2 s0 = some p) : V g m_X11_lets 0 n0 z0 (some (LI p)) A A 23 [some (LR v0), none, some (LI v2)] [LI s0] := by
  unfold b_X11_lets_23 at h
  refine V.aload_n dX11_lets_23 rfl rfl ?_
  obtain ⟨x6, h7, h⟩ := bnd h
  refine V.getF (gI_F h7) CF11 (Nat.le_of_ble_eq_true rfl) fl_RX11_285 dX11_lets_24 ?_
  refine V.iload_n dX11_lets_27 rfl rfl ?_
  refine V.ishr dX11_lets_28 ?_
  refine V.iconst dX11_lets_29 ki_1 ?_
  refine V.iand dX11_lets_30 ?_
  refine V.if_eq (tgt := 38) dX11_lets_31 (by decide) (fun c8 => ?_) (fun c8 => ?_)
  · have h := (if_pos c8).symm.trans h
    refine V.iconst dX11_lets_38 ki_0 ?_
    refine V.weak [] ?_
    exact wb_X11_lets_39 h
  · have h := (if_neg c8).symm.trans h
    refine V.iconst dX11_lets_34 ki_1 ?_
    refine V.goto (tgt := 39) dX11_lets_35 (by decide) ?_
    refine V.weak [] ?_
    exact wb_X11_lets_39 h
def b_X11_lets (A : LH) (v0 : Option Nat) (v1 : Int32) (v2 : Int32) : Option (Int32) :=
  (gR A v0 11 15).bind fun x1 => (aI A x1 0 ((8 : Int32) * (((12 : Int32) * v1) + v2))).bind fun x3 => if x3 = (1 : Int32) then b_X11_lets_23 A v0 v2 (1 : Int32) else b_X11_lets_23 A v0 v2 (0 : Int32)
set_option maxRecDepth 4000 in
theorem wb_X11_lets {g : GG} {n0 z0 : Nat} {A : LH} {v0 : Option Nat} {v1 : Int32} {v2 : Int32} {p : Int32} (h : b_X11_lets A v0 v1 v2 = some p) : V g m_X11_lets 0 n0 z0 (some (LI p)) A A 0 [some (LR v0), some (LI v1), some (LI v2)] [] := by
  unfold b_X11_lets at h
  refine V.aload_n dX11_lets_0 rfl rfl ?_
  obtain ⟨x1, h2, h⟩ := bnd h
  refine V.getF (gR_F h2) CF11 (Nat.le_of_ble_eq_true rfl) fl_RX11_50 dX11_lets_1 ?_
  refine V.bipush dX11_lets_4 kb_8 ?_
  refine V.bipush dX11_lets_6 kb_12 ?_
  refine V.iload_n dX11_lets_8 rfl rfl ?_
  refine V.imul dX11_lets_9 ?_
  refine V.iload_n dX11_lets_10 rfl rfl ?_
  refine V.iadd dX11_lets_11 ?_
  refine V.imul dX11_lets_12 ?_
  obtain ⟨x3, h4, h⟩ := bnd h
  refine V.iald h4 dX11_lets_13 ?_
  refine V.iconst dX11_lets_14 ki_1 ?_
  refine V.icmp_ne (tgt := 22) dX11_lets_15 (by decide) (fun c5 => ?_) (fun c5 => ?_)
  · have h := (if_neg c5).symm.trans h
    refine V.iconst dX11_lets_22 ki_0 ?_
    refine V.weak [true, false, true] ?_
    exact wb_X11_lets_23 h
  · have h := (if_pos c5).symm.trans h
    refine V.iconst dX11_lets_18 ki_1 ?_
    refine V.goto (tgt := 23) dX11_lets_19 (by decide) ?_
    refine V.weak [true, false, true] ?_
    exact wb_X11_lets_23 h
def f_X11_lets (A : LH) (v0 : Option Nat) (v1 : Int32) (v2 : Int32) : Option (Int32) := if isO A v0 11 = true then zd (b_X11_lets A v0 v1 v2) else none
theorem w_X11_lets {g : GG} {A : LH} {v0 : Option Nat} {v1 : Int32} {v2 : Int32} {p : Int32} (h : f_X11_lets A v0 v1 v2 = some p) : Ct g m_X11_lets 0 [LR v0, LI v1, LI v2] A (some (LI p)) A := by
  unfold f_X11_lets at h
  obtain ⟨ho, h⟩ := ifN h
  obtain ⟨h, hz⟩ := zd_sp h
  exact ⟨wb_X11_lets h, (RTz hz)⟩
theorem oo_X11_lets {A : LH} {v0 : Option Nat} {v1 : Int32} {v2 : Int32} {p : Int32} (h : f_X11_lets A v0 v1 v2 = some p) : isO A v0 11 = true := by unfold f_X11_lets at h; exact (ifN h).1
def b_X11_decider_130 (N : Nat) (k6 : LH → Option Nat → Int32 → Int32 → Int32 → Int32 → Int32 → Int32 → Int32 → Option (Int32 × LH)) (A : LH) (v0 : Option Nat) (v1 : Int32) (v2 : Int32) (v3 : Int32) (v4 : Int32) (v5 : Int32) (v6 : Int32) (v7 : Int32) (s0 : Int32) (s1 : Int32) : Option (Int32 × LH) :=
  if s1 = s0 then k6 A v0 v1 v2 v3 v4 v5 v6 (v7 + (1 : Int32)) else k6 A v0 v1 v2 v3 v4 v5 v7 (v7 + (1 : Int32))
set_option maxRecDepth 4000 in
theorem wb_X11_decider_130 {g : GG} {n0 z0 : Nat} (N : Nat) {k6 : LH → Option Nat → Int32 → Int32 → Int32 → Int32 → Int32 → Int32 → Int32 → Option (Int32 × LH)} {A : LH} {v0 : Option Nat} {v1 : Int32} {v2 : Int32} {v3 : Int32} {v4 : Int32} {v5 : Int32} {v6 : Int32} {v7 : Int32} {s0 : Int32} {s1 : Int32} {p : Int32 × LH} (hk6 : ∀ {A : LH} {v0 : Option Nat} {v1 : Int32} {v2 : Int32} {v3 : Int32} {v4 : Int32} {v5 : Int32} {v6 : Int32} {v7 : Int32} {p : Int32 × LH}, k6 A v0 v1 v2 v3 v4 v5 v6 v7 = some p → V g m_X11_decider 3 n0 z0 (some (LI p.1)) p.2 A 6 [some (LR v0), some (LI v1), some (LI v2), some (LI v3), some (LI v4), some (LI v5), some (LI v6), some (LI v7)] []) (h : b_X11_decider_130 N k6 A v0 v1 v2 v3 v4 v5 v6 v7 s0 s1 = some p) : V g m_X11_decider 3 n0 z0 (some (LI p.1)) p.2 A 130 [some (LR v0), some (LI v1), some (LI v2), some (LI v3), some (LI v4), some (LI v5), some (LI v6), some (LI v7)] [LI s0, LI s1] := by
  unfold b_X11_decider_130 at h
  refine V.icmp_eq (tgt := 137) dX11_decider_130 (by decide) (fun c41 => ?_) (fun c41 => ?_)
  · have h := (if_pos c41).symm.trans h
    refine V.iinc (ls' := [some (LR v0), some (LI v1), some (LI v2), some (LI v3), some (LI v4), some (LI v5), some (LI v6), some (LI (v7 + (1 : Int32)))]) dX11_decider_137 rfl ki_1 (by decide) rfl rfl ?_
    refine V.goto (tgt := 6) dX11_decider_140 (by decide) ?_
    refine V.weak [true, true, true, true, true, true, true, true] ?_
    exact hk6 h
  · have h := (if_neg c41).symm.trans h
    refine V.iload dX11_decider_133 rfl ?_
    refine V.istore (ls' := [some (LR v0), some (LI v1), some (LI v2), some (LI v3), some (LI v4), some (LI v5), some (LI v7), some (LI v7)]) dX11_decider_135 (by decide) rfl rfl ?_
    refine V.iinc (ls' := [some (LR v0), some (LI v1), some (LI v2), some (LI v3), some (LI v4), some (LI v5), some (LI v7), some (LI (v7 + (1 : Int32)))]) dX11_decider_137 rfl ki_1 (by decide) rfl rfl ?_
    refine V.goto (tgt := 6) dX11_decider_140 (by decide) ?_
    refine V.weak [true, true, true, true, true, true, true, true] ?_
    exact hk6 h
def b_X11_decider_105 (N : Nat) (k6 : LH → Option Nat → Int32 → Int32 → Int32 → Int32 → Int32 → Int32 → Int32 → Option (Int32 × LH)) (A : LH) (v0 : Option Nat) (v1 : Int32) (v2 : Int32) (v3 : Int32) (v4 : Int32) (v5 : Int32) (v6 : Int32) (v7 : Int32) (s0 : Int32) (s1 : Int32) : Option (Int32 × LH) :=
  if s1 = s0 then (f_X11_lets A v0 v1 v6).bind fun p33 => (gR A v0 11 13).bind fun x36 => (aI A x36 0 v1).bind fun x38 => if x38 = (3 : Int32) then b_X11_decider_130 N k6 A v0 v1 v2 v3 v4 v5 v6 v7 (1 : Int32) p33 else b_X11_decider_130 N k6 A v0 v1 v2 v3 v4 v5 v6 v7 (0 : Int32) p33 else k6 A v0 v1 v2 v3 v4 v5 v6 (v7 + (1 : Int32))
set_option maxRecDepth 4000 in
theorem wb_X11_decider_105 {g : GG} {n0 z0 : Nat} (N : Nat) {k6 : LH → Option Nat → Int32 → Int32 → Int32 → Int32 → Int32 → Int32 → Int32 → Option (Int32 × LH)} {A : LH} {v0 : Option Nat} {v1 : Int32} {v2 : Int32} {v3 : Int32} {v4 : Int32} {v5 : Int32} {v6 : Int32} {v7 : Int32} {s0 : Int32} {s1 : Int32} {p : Int32 × LH} (hk6 : ∀ {A : LH} {v0 : Option Nat} {v1 : Int32} {v2 : Int32} {v3 : Int32} {v4 : Int32} {v5 : Int32} {v6 : Int32} {v7 : Int32} {p : Int32 × LH}, k6 A v0 v1 v2 v3 v4 v5 v6 v7 = some p → V g m_X11_decider 3 n0 z0 (some (LI p.1)) p.2 A 6 [some (LR v0), some (LI v1), some (LI v2), some (LI v3), some (LI v4), some (LI v5), some (LI v6), some (LI v7)] []) (h : b_X11_decider_105 N k6 A v0 v1 v2 v3 v4 v5 v6 v7 s0 s1 = some p) : V g m_X11_decider 3 n0 z0 (some (LI p.1)) p.2 A 105 [some (LR v0), some (LI v1), some (LI v2), some (LI v3), some (LI v4), some (LI v5), some (LI v6), some (LI v7)] [LI s0, LI s1] := by
  unfold b_X11_decider_105 at h
  refine V.icmp_ne (tgt := 137) dX11_decider_105 (by decide) (fun c32 => ?_) (fun c32 => ?_)
  · have h := (if_neg c32).symm.trans h
    refine V.iinc (ls' := [some (LR v0), some (LI v1), some (LI v2), some (LI v3), some (LI v4), some (LI v5), some (LI v6), some (LI (v7 + (1 : Int32)))]) dX11_decider_137 rfl ki_1 (by decide) rfl rfl ?_
    refine V.goto (tgt := 6) dX11_decider_140 (by decide) ?_
    refine V.weak [true, true, true, true, true, true, true, true] ?_
    exact hk6 h
  · have h := (if_pos c32).symm.trans h
    refine V.aload_n dX11_decider_108 rfl rfl ?_
    refine V.iload_n dX11_decider_109 rfl rfl ?_
    refine V.iload dX11_decider_110 rfl ?_
    obtain ⟨p33, h34, h⟩ := bnd h
    have w35 := w_X11_lets (g := g) h34
    refine V.callVi (args := [LI v1, LI v6]) (st := []) w35.1 (oo_X11_lets h34) mk_X11_lets w35.2 vc_11 ml_RX11_295 im_X11_lets se_X11_lets rfl (Nat.le_of_ble_eq_true rfl) (by decide) rfl (Nat.le_of_ble_eq_true rfl) dX11_decider_112 ?_
    refine V.aload_n dX11_decider_115 rfl rfl ?_
    obtain ⟨x36, h37, h⟩ := bnd h
    refine V.getF (gR_F h37) CF11 (Nat.le_of_ble_eq_true rfl) fl_RX11_44 dX11_decider_116 ?_
    refine V.iload_n dX11_decider_119 rfl rfl ?_
    obtain ⟨x38, h39, h⟩ := bnd h
    refine V.iald h39 dX11_decider_120 ?_
    refine V.iconst dX11_decider_121 ki_3 ?_
    refine V.icmp_ne (tgt := 129) dX11_decider_122 (by decide) (fun c40 => ?_) (fun c40 => ?_)
    · have h := (if_neg c40).symm.trans h
      refine V.iconst dX11_decider_129 ki_0 ?_
      refine V.weak [true, true, true, true, true, true, true, true] ?_
      exact wb_X11_decider_130 N hk6 h
    · have h := (if_pos c40).symm.trans h
      refine V.iconst dX11_decider_125 ki_1 ?_
      refine V.goto (tgt := 130) dX11_decider_126 (by decide) ?_
      refine V.weak [true, true, true, true, true, true, true, true] ?_
      exact wb_X11_decider_130 N hk6 h
def b_X11_decider_6 (N : Nat) (k6 : LH → Option Nat → Int32 → Int32 → Int32 → Int32 → Int32 → Int32 → Int32 → Option (Int32 × LH)) (A : LH) (v0 : Option Nat) (v1 : Int32) (v2 : Int32) (v3 : Int32) (v4 : Int32) (v5 : Int32) (v6 : Int32) (v7 : Int32) : Option (Int32 × LH) :=
  (gR A v0 11 14).bind fun x1 => (aI A x1 0 v1).bind fun x3 => if x3 ≤ v7 then some (v6, A) else (gI A v0 11 39).bind fun x6 => if ((x6 >>> (v7 &&& 31)) &&& (1 : Int32)) = 0 then (f_X11_holds N A v0 v1 v7 v2 v3 v4 v5).bind fun p9 => if p9.1 = 0 then k6 p9.2 v0 v1 v2 v3 v4 v5 v6 (v7 + (1 : Int32)) else (gR p9.2 v0 11 13).bind fun x13 => (aI p9.2 x13 0 v1).bind fun x15 => if x15 = 0 then some (v7, p9.2) else (gR p9.2 v0 11 13).bind fun x18 => (aI p9.2 x18 0 v1).bind fun x20 => if x20 = (1 : Int32) then k6 p9.2 v0 v1 v2 v3 v4 v5 v7 (v7 + (1 : Int32)) else if v6 = (-1 : Int32) then k6 p9.2 v0 v1 v2 v3 v4 v5 v7 (v7 + (1 : Int32)) else (f_X11_lets p9.2 v0 v1 v7).bind fun p24 => (gR p9.2 v0 11 13).bind fun x27 => (aI p9.2 x27 0 v1).bind fun x29 => if x29 = (3 : Int32) then b_X11_decider_105 N k6 p9.2 v0 v1 v2 v3 v4 v5 v6 v7 (1 : Int32) p24 else b_X11_decider_105 N k6 p9.2 v0 v1 v2 v3 v4 v5 v6 v7 (0 : Int32) p24 else k6 A v0 v1 v2 v3 v4 v5 v6 (v7 + (1 : Int32))
set_option maxRecDepth 4000 in
theorem wb_X11_decider_6 {g : GG} {n0 z0 : Nat} (N : Nat) {k6 : LH → Option Nat → Int32 → Int32 → Int32 → Int32 → Int32 → Int32 → Int32 → Option (Int32 × LH)} {A : LH} {v0 : Option Nat} {v1 : Int32} {v2 : Int32} {v3 : Int32} {v4 : Int32} {v5 : Int32} {v6 : Int32} {v7 : Int32} {p : Int32 × LH} (hk6 : ∀ {A : LH} {v0 : Option Nat} {v1 : Int32} {v2 : Int32} {v3 : Int32} {v4 : Int32} {v5 : Int32} {v6 : Int32} {v7 : Int32} {p : Int32 × LH}, k6 A v0 v1 v2 v3 v4 v5 v6 v7 = some p → V g m_X11_decider 3 n0 z0 (some (LI p.1)) p.2 A 6 [some (LR v0), some (LI v1), some (LI v2), some (LI v3), some (LI v4), some (LI v5), some (LI v6), some (LI v7)] []) (h : b_X11_decider_6 N k6 A v0 v1 v2 v3 v4 v5 v6 v7 = some p) : V g m_X11_decider 3 n0 z0 (some (LI p.1)) p.2 A 6 [some (LR v0), some (LI v1), some (LI v2), some (LI v3), some (LI v4), some (LI v5), some (LI v6), some (LI v7)] [] := by
  unfold b_X11_decider_6 at h
  refine V.iload dX11_decider_6 rfl ?_
  refine V.aload_n dX11_decider_8 rfl rfl ?_
  obtain ⟨x1, h2, h⟩ := bnd h
  refine V.getF (gR_F h2) CF11 (Nat.le_of_ble_eq_true rfl) fl_RX11_47 dX11_decider_9 ?_
  refine V.iload_n dX11_decider_12 rfl rfl ?_
  obtain ⟨x3, h4, h⟩ := bnd h
  refine V.iald h4 dX11_decider_13 ?_
  refine V.icmp_ge (tgt := 143) dX11_decider_14 (by decide) (fun c5 => ?_) (fun c5 => ?_)
  · have h := (if_pos c5).symm.trans h
    refine V.iload dX11_decider_143 rfl ?_
    obtain rfl := Option.some.inj h
    exact V.ireturn dX11_decider_145
  · have h := (if_neg c5).symm.trans h
    refine V.aload_n dX11_decider_17 rfl rfl ?_
    obtain ⟨x6, h7, h⟩ := bnd h
    refine V.getF (gI_F h7) CF11 (Nat.le_of_ble_eq_true rfl) fl_RX11_288 dX11_decider_18 ?_
    refine V.iload dX11_decider_21 rfl ?_
    refine V.ishr dX11_decider_23 ?_
    refine V.iconst dX11_decider_24 ki_1 ?_
    refine V.iand dX11_decider_25 ?_
    refine V.if_ne (tgt := 137) dX11_decider_26 (by decide) (fun c8 => ?_) (fun c8 => ?_)
    · have h := (if_neg c8).symm.trans h
      refine V.iinc (ls' := [some (LR v0), some (LI v1), some (LI v2), some (LI v3), some (LI v4), some (LI v5), some (LI v6), some (LI (v7 + (1 : Int32)))]) dX11_decider_137 rfl ki_1 (by decide) rfl rfl ?_
      refine V.goto (tgt := 6) dX11_decider_140 (by decide) ?_
      refine V.weak [true, true, true, true, true, true, true, true] ?_
      exact hk6 h
    · have h := (if_pos c8).symm.trans h
      refine V.aload_n dX11_decider_29 rfl rfl ?_
      refine V.iload_n dX11_decider_30 rfl rfl ?_
      refine V.iload dX11_decider_31 rfl ?_
      refine V.iload_n dX11_decider_33 rfl rfl ?_
      refine V.iload_n dX11_decider_34 rfl rfl ?_
      refine V.iload dX11_decider_35 rfl ?_
      refine V.iload dX11_decider_37 rfl ?_
      obtain ⟨p9, h10, h⟩ := bnd h
      have w11 := w_X11_holds (g := g) N h10
      refine V.callVi (args := [LI v1, LI v7, LI v2, LI v3, LI v4, LI v5]) (st := []) w11.1 (oo_X11_holds h10) mk_X11_holds w11.2 vc_11 ml_RX11_291 im_X11_holds se_X11_holds rfl (Nat.le_of_ble_eq_true rfl) (by decide) rfl (Nat.le_of_ble_eq_true rfl) dX11_decider_39 ?_
      refine V.if_ne (tgt := 48) dX11_decider_42 (by decide) (fun c12 => ?_) (fun c12 => ?_)
      · have h := (if_neg c12).symm.trans h
        refine V.aload_n dX11_decider_48 rfl rfl ?_
        obtain ⟨x13, h14, h⟩ := bnd h
        refine V.getF (gR_F h14) CF11 (Nat.le_of_ble_eq_true rfl) fl_RX11_44 dX11_decider_49 ?_
        refine V.iload_n dX11_decider_52 rfl rfl ?_
        obtain ⟨x15, h16, h⟩ := bnd h
        refine V.iald h16 dX11_decider_53 ?_
        refine V.if_ne (tgt := 60) dX11_decider_54 (by decide) (fun c17 => ?_) (fun c17 => ?_)
        · have h := (if_neg c17).symm.trans h
          refine V.aload_n dX11_decider_60 rfl rfl ?_
          obtain ⟨x18, h19, h⟩ := bnd h
          refine V.getF (gR_F h19) CF11 (Nat.le_of_ble_eq_true rfl) fl_RX11_44 dX11_decider_61 ?_
          refine V.iload_n dX11_decider_64 rfl rfl ?_
          obtain ⟨x20, h21, h⟩ := bnd h
          refine V.iald h21 dX11_decider_65 ?_
          refine V.iconst dX11_decider_66 ki_1 ?_
          refine V.icmp_eq (tgt := 76) dX11_decider_67 (by decide) (fun c22 => ?_) (fun c22 => ?_)
          · have h := (if_pos c22).symm.trans h
            refine V.iload dX11_decider_76 rfl ?_
            refine V.istore (ls' := [some (LR v0), some (LI v1), some (LI v2), some (LI v3), some (LI v4), some (LI v5), some (LI v7), some (LI v7)]) dX11_decider_78 (by decide) rfl rfl ?_
            refine V.goto (tgt := 137) dX11_decider_80 (by decide) ?_
            refine V.iinc (ls' := [some (LR v0), some (LI v1), some (LI v2), some (LI v3), some (LI v4), some (LI v5), some (LI v7), some (LI (v7 + (1 : Int32)))]) dX11_decider_137 rfl ki_1 (by decide) rfl rfl ?_
            refine V.goto (tgt := 6) dX11_decider_140 (by decide) ?_
            refine V.weak [true, true, true, true, true, true, true, true] ?_
            exact hk6 h
          · have h := (if_neg c22).symm.trans h
            refine V.iload dX11_decider_70 rfl ?_
            refine V.iconst dX11_decider_72 ki_m1 ?_
            refine V.icmp_ne (tgt := 83) dX11_decider_73 (by decide) (fun c23 => ?_) (fun c23 => ?_)
            · have h := (if_neg c23).symm.trans h
              refine V.aload_n dX11_decider_83 rfl rfl ?_
              refine V.iload_n dX11_decider_84 rfl rfl ?_
              refine V.iload dX11_decider_85 rfl ?_
              obtain ⟨p24, h25, h⟩ := bnd h
              have w26 := w_X11_lets (g := g) h25
              refine V.callVi (args := [LI v1, LI v7]) (st := []) w26.1 (oo_X11_lets h25) mk_X11_lets w26.2 vc_11 ml_RX11_295 im_X11_lets se_X11_lets rfl (Nat.le_of_ble_eq_true rfl) (by decide) rfl (Nat.le_of_ble_eq_true rfl) dX11_decider_87 ?_
              refine V.aload_n dX11_decider_90 rfl rfl ?_
              obtain ⟨x27, h28, h⟩ := bnd h
              refine V.getF (gR_F h28) CF11 (Nat.le_of_ble_eq_true rfl) fl_RX11_44 dX11_decider_91 ?_
              refine V.iload_n dX11_decider_94 rfl rfl ?_
              obtain ⟨x29, h30, h⟩ := bnd h
              refine V.iald h30 dX11_decider_95 ?_
              refine V.iconst dX11_decider_96 ki_3 ?_
              refine V.icmp_ne (tgt := 104) dX11_decider_97 (by decide) (fun c31 => ?_) (fun c31 => ?_)
              · have h := (if_neg c31).symm.trans h
                refine V.iconst dX11_decider_104 ki_0 ?_
                refine V.weak [true, true, true, true, true, true, true, true] ?_
                exact wb_X11_decider_105 N hk6 h
              · have h := (if_pos c31).symm.trans h
                refine V.iconst dX11_decider_100 ki_1 ?_
                refine V.goto (tgt := 105) dX11_decider_101 (by decide) ?_
                refine V.weak [true, true, true, true, true, true, true, true] ?_
                exact wb_X11_decider_105 N hk6 h
            · have h := (if_pos c23).symm.trans h
              refine V.iload dX11_decider_76 rfl ?_
              refine V.istore (ls' := [some (LR v0), some (LI v1), some (LI v2), some (LI v3), some (LI v4), some (LI v5), some (LI v7), some (LI v7)]) dX11_decider_78 (by decide) rfl rfl ?_
              refine V.goto (tgt := 137) dX11_decider_80 (by decide) ?_
              refine V.iinc (ls' := [some (LR v0), some (LI v1), some (LI v2), some (LI v3), some (LI v4), some (LI v5), some (LI v7), some (LI (v7 + (1 : Int32)))]) dX11_decider_137 rfl ki_1 (by decide) rfl rfl ?_
              refine V.goto (tgt := 6) dX11_decider_140 (by decide) ?_
              refine V.weak [true, true, true, true, true, true, true, true] ?_
              exact hk6 h
        · have h := (if_pos c17).symm.trans h
          refine V.iload dX11_decider_57 rfl ?_
          obtain rfl := Option.some.inj h
          exact V.ireturn dX11_decider_59
      · have h := (if_pos c12).symm.trans h
        refine V.goto (tgt := 137) dX11_decider_45 (by decide) ?_
        refine V.iinc (ls' := [some (LR v0), some (LI v1), some (LI v2), some (LI v3), some (LI v4), some (LI v5), some (LI v6), some (LI (v7 + (1 : Int32)))]) dX11_decider_137 rfl ki_1 (by decide) rfl rfl ?_
        refine V.goto (tgt := 6) dX11_decider_140 (by decide) ?_
        refine V.weak [true, true, true, true, true, true, true, true] ?_
        exact hk6 h
def l_X11_decider_6 (N : Nat) : Nat → LH → Option Nat → Int32 → Int32 → Int32 → Int32 → Int32 → Int32 → Int32 → Option (Int32 × LH)
  | 0, _, _, _, _, _, _, _, _, _ => none
  | n + 1, A, v0, v1, v2, v3, v4, v5, v6, v7 => b_X11_decider_6 N (l_X11_decider_6 N n) A v0 v1 v2 v3 v4 v5 v6 v7
theorem wl_X11_decider_6 {g : GG} {n0 z0 : Nat} (N : Nat) : ∀ (n : Nat) {A : LH} {v0 : Option Nat} {v1 : Int32} {v2 : Int32} {v3 : Int32} {v4 : Int32} {v5 : Int32} {v6 : Int32} {v7 : Int32} {p : Int32 × LH}, l_X11_decider_6 N n A v0 v1 v2 v3 v4 v5 v6 v7 = some p → V g m_X11_decider 3 n0 z0 (some (LI p.1)) p.2 A 6 [some (LR v0), some (LI v1), some (LI v2), some (LI v3), some (LI v4), some (LI v5), some (LI v6), some (LI v7)] []
  | 0, _, _, _, _, _, _, _, _, _, _, h => nomatch h
  | n + 1, _, _, _, _, _, _, _, _, _, _, h => wb_X11_decider_6 N (wl_X11_decider_6 N n) h
def b_X11_decider (N : Nat) (A : LH) (v0 : Option Nat) (v1 : Int32) (v2 : Int32) (v3 : Int32) (v4 : Int32) (v5 : Int32) : Option (Int32 × LH) :=
  l_X11_decider_6 N N A v0 v1 v2 v3 v4 v5 (-1 : Int32) (0 : Int32)
set_option maxRecDepth 4000 in
theorem wb_X11_decider {g : GG} {n0 z0 : Nat} (N : Nat) {A : LH} {v0 : Option Nat} {v1 : Int32} {v2 : Int32} {v3 : Int32} {v4 : Int32} {v5 : Int32} {p : Int32 × LH} (h : b_X11_decider N A v0 v1 v2 v3 v4 v5 = some p) : V g m_X11_decider 3 n0 z0 (some (LI p.1)) p.2 A 0 [some (LR v0), some (LI v1), some (LI v2), some (LI v3), some (LI v4), some (LI v5)] [] := by
  unfold b_X11_decider at h
  refine V.iconst dX11_decider_0 ki_m1 ?_
  refine V.istore (ls' := [some (LR v0), some (LI v1), some (LI v2), some (LI v3), some (LI v4), some (LI v5), some (LI (-1 : Int32))]) dX11_decider_1 (by decide) rfl rfl ?_
  refine V.iconst dX11_decider_3 ki_0 ?_
  refine V.istore (ls' := [some (LR v0), some (LI v1), some (LI v2), some (LI v3), some (LI v4), some (LI v5), some (LI (-1 : Int32)), some (LI (0 : Int32))]) dX11_decider_4 (by decide) rfl rfl ?_
  refine V.weak [true, true, true, true, true, true, true, true] ?_
  exact wl_X11_decider_6 N N h
def f_X11_decider (N : Nat) (A : LH) (v0 : Option Nat) (v1 : Int32) (v2 : Int32) (v3 : Int32) (v4 : Int32) (v5 : Int32) : Option (Int32 × LH) := if isO A v0 11 = true then b_X11_decider N A v0 v1 v2 v3 v4 v5 else none
theorem w_X11_decider {g : GG} (N : Nat) {A : LH} {v0 : Option Nat} {v1 : Int32} {v2 : Int32} {v3 : Int32} {v4 : Int32} {v5 : Int32} {p : Int32 × LH} (h : f_X11_decider N A v0 v1 v2 v3 v4 v5 = some p) : Ct g m_X11_decider 3 [LR v0, LI v1, LI v2, LI v3, LI v4, LI v5] A (some (LI p.1)) p.2 := by
  unfold f_X11_decider at h
  obtain ⟨ho, h⟩ := ifN h
  exact ⟨wb_X11_decider N h, rfl⟩
theorem oo_X11_decider {N : Nat} {A : LH} {v0 : Option Nat} {v1 : Int32} {v2 : Int32} {v3 : Int32} {v4 : Int32} {v5 : Int32} {p : Int32 × LH} (h : f_X11_decider N A v0 v1 v2 v3 v4 v5 = some p) : isO A v0 11 = true := by unfold f_X11_decider at h; exact (ifN h).1
def b_X11_isLet (N : Nat) (A : LH) (v0 : Option Nat) (v1 : Int32) (v2 : Int32) (v3 : Int32) (v4 : Int32) (v5 : Int32) : Option (Int32 × LH) :=
  (f_X11_decider N A v0 v1 v2 v3 v4 v5).bind fun p1 => if p1.1 = (-1 : Int32) then some ((0 : Int32), p1.2) else (f_X11_lets p1.2 v0 v1 p1.1).bind fun p5 => if p5 = 0 then some ((0 : Int32), p1.2) else some ((1 : Int32), p1.2)
set_option maxRecDepth 4000 in
theorem wb_X11_isLet {g : GG} {n0 z0 : Nat} (N : Nat) {A : LH} {v0 : Option Nat} {v1 : Int32} {v2 : Int32} {v3 : Int32} {v4 : Int32} {v5 : Int32} {p : Int32 × LH} (h : b_X11_isLet N A v0 v1 v2 v3 v4 v5 = some p) : V g m_X11_isLet 4 n0 z0 (some (LI p.1)) p.2 A 0 [some (LR v0), some (LI v1), some (LI v2), some (LI v3), some (LI v4), some (LI v5)] [] := by
  unfold b_X11_isLet at h
  refine V.aload_n dX11_isLet_0 rfl rfl ?_
  refine V.iload_n dX11_isLet_1 rfl rfl ?_
  refine V.iload_n dX11_isLet_2 rfl rfl ?_
  refine V.iload_n dX11_isLet_3 rfl rfl ?_
  refine V.iload dX11_isLet_4 rfl ?_
  refine V.iload dX11_isLet_6 rfl ?_
  obtain ⟨p1, h2, h⟩ := bnd h
  have w3 := w_X11_decider (g := g) N h2
  refine V.callVi (args := [LI v1, LI v2, LI v3, LI v4, LI v5]) (st := []) w3.1 (oo_X11_decider h2) mk_X11_decider w3.2 vc_11 ml_RX11_299 im_X11_decider se_X11_decider rfl (Nat.le_of_ble_eq_true rfl) (by decide) rfl (Nat.le_of_ble_eq_true rfl) dX11_isLet_8 ?_
  refine V.istore (ls' := [some (LR v0), some (LI v1), some (LI v2), some (LI v3), some (LI v4), some (LI v5), some (LI p1.1)]) dX11_isLet_11 (by decide) rfl rfl ?_
  refine V.iload dX11_isLet_13 rfl ?_
  refine V.iconst dX11_isLet_15 ki_m1 ?_
  refine V.icmp_eq (tgt := 33) dX11_isLet_16 (by decide) (fun c4 => ?_) (fun c4 => ?_)
  · have h := (if_pos c4).symm.trans h
    refine V.iconst dX11_isLet_33 ki_0 ?_
    obtain rfl := Option.some.inj h
    exact V.ireturn dX11_isLet_34
  · have h := (if_neg c4).symm.trans h
    refine V.aload_n dX11_isLet_19 rfl rfl ?_
    refine V.iload_n dX11_isLet_20 rfl rfl ?_
    refine V.iload dX11_isLet_21 rfl ?_
    obtain ⟨p5, h6, h⟩ := bnd h
    have w7 := w_X11_lets (g := g) h6
    refine V.callVi (args := [LI v1, LI p1.1]) (st := []) w7.1 (oo_X11_lets h6) mk_X11_lets w7.2 vc_11 ml_RX11_295 im_X11_lets se_X11_lets rfl (Nat.le_of_ble_eq_true rfl) (by decide) rfl (Nat.le_of_ble_eq_true rfl) dX11_isLet_23 ?_
    refine V.if_eq (tgt := 33) dX11_isLet_26 (by decide) (fun c8 => ?_) (fun c8 => ?_)
    · have h := (if_pos c8).symm.trans h
      refine V.iconst dX11_isLet_33 ki_0 ?_
      obtain rfl := Option.some.inj h
      exact V.ireturn dX11_isLet_34
    · have h := (if_neg c8).symm.trans h
      refine V.iconst dX11_isLet_29 ki_1 ?_
      refine V.goto (tgt := 34) dX11_isLet_30 (by decide) ?_
      obtain rfl := Option.some.inj h
      exact V.ireturn dX11_isLet_34
def f_X11_isLet (N : Nat) (A : LH) (v0 : Option Nat) (v1 : Int32) (v2 : Int32) (v3 : Int32) (v4 : Int32) (v5 : Int32) : Option (Int32 × LH) := if isO A v0 11 = true then zc (b_X11_isLet N A v0 v1 v2 v3 v4 v5) else none
theorem w_X11_isLet {g : GG} (N : Nat) {A : LH} {v0 : Option Nat} {v1 : Int32} {v2 : Int32} {v3 : Int32} {v4 : Int32} {v5 : Int32} {p : Int32 × LH} (h : f_X11_isLet N A v0 v1 v2 v3 v4 v5 = some p) : Ct g m_X11_isLet 4 [LR v0, LI v1, LI v2, LI v3, LI v4, LI v5] A (some (LI p.1)) p.2 := by
  unfold f_X11_isLet at h
  obtain ⟨ho, h⟩ := ifN h
  obtain ⟨h, hz⟩ := zc_sp h
  exact ⟨wb_X11_isLet N h, (RTz hz)⟩
theorem oo_X11_isLet {N : Nat} {A : LH} {v0 : Option Nat} {v1 : Int32} {v2 : Int32} {v3 : Int32} {v4 : Int32} {v5 : Int32} {p : Int32 × LH} (h : f_X11_isLet N A v0 v1 v2 v3 v4 v5 = some p) : isO A v0 11 = true := by unfold f_X11_isLet at h; exact (ifN h).1
def b_X11_canAsk (A : LH) (v0 : Option Nat) (v1 : Int32) (v2 : Int32) (v3 : Int32) (v4 : Int32) : Option (Int32) :=
  (f_X11_isPerson A v0 v1).bind fun p1 => if p1 = 0 then some (0 : Int32) else (f_X11_in v2 (0 : Int32) (3 : Int32)).bind fun p5 => if p5 = 0 then some (0 : Int32) else (f_X11_isThing A v0 v3).bind fun p9 => if p9 = 0 then some (0 : Int32) else (f_X11_in v4 (0 : Int32) (23 : Int32)).bind fun p13 => if p13 = 0 then some (0 : Int32) else some (1 : Int32)
set_option maxRecDepth 4000 in
theorem wb_X11_canAsk {g : GG} {n0 z0 : Nat} {A : LH} {v0 : Option Nat} {v1 : Int32} {v2 : Int32} {v3 : Int32} {v4 : Int32} {p : Int32} (h : b_X11_canAsk A v0 v1 v2 v3 v4 = some p) : V g m_X11_canAsk 2 n0 z0 (some (LI p)) A A 0 [some (LR v0), some (LI v1), some (LI v2), some (LI v3), some (LI v4)] [] := by
  unfold b_X11_canAsk at h
  refine V.aload_n dX11_canAsk_0 rfl rfl ?_
  refine V.iload_n dX11_canAsk_1 rfl rfl ?_
  obtain ⟨p1, h2, h⟩ := bnd h
  have w3 := w_X11_isPerson (g := g) h2
  refine V.callVi (args := [LI v1]) (st := []) w3.1 (oo_X11_isPerson h2) mk_X11_isPerson w3.2 vc_11 ml_RX11_271 im_X11_isPerson se_X11_isPerson rfl (Nat.le_of_ble_eq_true rfl) (by decide) rfl (Nat.le_of_ble_eq_true rfl) dX11_canAsk_2 ?_
  refine V.if_eq (tgt := 40) dX11_canAsk_5 (by decide) (fun c4 => ?_) (fun c4 => ?_)
  · have h := (if_pos c4).symm.trans h
    refine V.iconst dX11_canAsk_40 ki_0 ?_
    obtain rfl := Option.some.inj h
    exact V.ireturn dX11_canAsk_41
  · have h := (if_neg c4).symm.trans h
    refine V.iload_n dX11_canAsk_8 rfl rfl ?_
    refine V.iconst dX11_canAsk_9 ki_0 ?_
    refine V.iconst dX11_canAsk_10 ki_3 ?_
    obtain ⟨p5, h6, h⟩ := bnd h
    have w7 := w_X11_in (g := g) (A := A) h6
    refine V.callSi (args := [LI v2, LI (0 : Int32), LI (3 : Int32)]) (st := []) w7.1 mk_X11_in w7.2 ml_RX11_108 sm_X11_in rfl (Nat.le_of_ble_eq_true rfl) (by decide) rfl (Nat.le_of_ble_eq_true rfl) dX11_canAsk_11 ?_
    refine V.if_eq (tgt := 40) dX11_canAsk_14 (by decide) (fun c8 => ?_) (fun c8 => ?_)
    · have h := (if_pos c8).symm.trans h
      refine V.iconst dX11_canAsk_40 ki_0 ?_
      obtain rfl := Option.some.inj h
      exact V.ireturn dX11_canAsk_41
    · have h := (if_neg c8).symm.trans h
      refine V.aload_n dX11_canAsk_17 rfl rfl ?_
      refine V.iload_n dX11_canAsk_18 rfl rfl ?_
      obtain ⟨p9, h10, h⟩ := bnd h
      have w11 := w_X11_isThing (g := g) h10
      refine V.callVi (args := [LI v3]) (st := []) w11.1 (oo_X11_isThing h10) mk_X11_isThing w11.2 vc_11 ml_RX11_274 im_X11_isThing se_X11_isThing rfl (Nat.le_of_ble_eq_true rfl) (by decide) rfl (Nat.le_of_ble_eq_true rfl) dX11_canAsk_19 ?_
      refine V.if_eq (tgt := 40) dX11_canAsk_22 (by decide) (fun c12 => ?_) (fun c12 => ?_)
      · have h := (if_pos c12).symm.trans h
        refine V.iconst dX11_canAsk_40 ki_0 ?_
        obtain rfl := Option.some.inj h
        exact V.ireturn dX11_canAsk_41
      · have h := (if_neg c12).symm.trans h
        refine V.iload dX11_canAsk_25 rfl ?_
        refine V.iconst dX11_canAsk_27 ki_0 ?_
        refine V.bipush dX11_canAsk_28 kb_23 ?_
        obtain ⟨p13, h14, h⟩ := bnd h
        have w15 := w_X11_in (g := g) (A := A) h14
        refine V.callSi (args := [LI v4, LI (0 : Int32), LI (23 : Int32)]) (st := []) w15.1 mk_X11_in w15.2 ml_RX11_108 sm_X11_in rfl (Nat.le_of_ble_eq_true rfl) (by decide) rfl (Nat.le_of_ble_eq_true rfl) dX11_canAsk_30 ?_
        refine V.if_eq (tgt := 40) dX11_canAsk_33 (by decide) (fun c16 => ?_) (fun c16 => ?_)
        · have h := (if_pos c16).symm.trans h
          refine V.iconst dX11_canAsk_40 ki_0 ?_
          obtain rfl := Option.some.inj h
          exact V.ireturn dX11_canAsk_41
        · have h := (if_neg c16).symm.trans h
          refine V.iconst dX11_canAsk_36 ki_1 ?_
          refine V.goto (tgt := 41) dX11_canAsk_37 (by decide) ?_
          obtain rfl := Option.some.inj h
          exact V.ireturn dX11_canAsk_41
def f_X11_canAsk (A : LH) (v0 : Option Nat) (v1 : Int32) (v2 : Int32) (v3 : Int32) (v4 : Int32) : Option (Int32) := if isO A v0 11 = true then zd (b_X11_canAsk A v0 v1 v2 v3 v4) else none
theorem w_X11_canAsk {g : GG} {A : LH} {v0 : Option Nat} {v1 : Int32} {v2 : Int32} {v3 : Int32} {v4 : Int32} {p : Int32} (h : f_X11_canAsk A v0 v1 v2 v3 v4 = some p) : Ct g m_X11_canAsk 2 [LR v0, LI v1, LI v2, LI v3, LI v4] A (some (LI p)) A := by
  unfold f_X11_canAsk at h
  obtain ⟨ho, h⟩ := ifN h
  obtain ⟨h, hz⟩ := zd_sp h
  exact ⟨wb_X11_canAsk h, (RTz hz)⟩
theorem oo_X11_canAsk {A : LH} {v0 : Option Nat} {v1 : Int32} {v2 : Int32} {v3 : Int32} {v4 : Int32} {p : Int32} (h : f_X11_canAsk A v0 v1 v2 v3 v4 = some p) : isO A v0 11 = true := by unfold f_X11_canAsk at h; exact (ifN h).1
def b_X11_decide (N : Nat) (A : LH) (v0 : Option Nat) (v1 : Int32) (v2 : Int32) (v3 : Int32) (v4 : Int32) (v5 : Int32) (v6 : Int32) : Option (Int32 × LH) :=
  (pF A v0 11 0 (LI (0 : Int32))).bind fun A1 => (f_X11_isSlot A1 v0 v1).bind fun p3 => if p3 = 0 then some ((-2 : Int32), A1) else (f_X11_canAsk A1 v0 v2 v3 v4 v5).bind fun p7 => if p7 = 0 then some ((-2 : Int32), A1) else (pF A1 v0 11 39 (LI (0 : Int32))).bind fun A11 => (pF A11 v0 11 40 (LI (0 : Int32))).bind fun A13 => if v6 = 0 then (f_X11_isLet N A13 v0 v1 v2 v3 v4 v5).bind fun p16 => if p16.1 = 0 then some ((0 : Int32), p16.2) else some ((1 : Int32), p16.2) else (f_X11_decider N A13 v0 v1 v2 v3 v4 v5).bind fun p20 => some (p20.1, p20.2)
set_option maxRecDepth 4000 in
theorem wb_X11_decide {g : GG} {n0 z0 : Nat} (N : Nat) {A : LH} {v0 : Option Nat} {v1 : Int32} {v2 : Int32} {v3 : Int32} {v4 : Int32} {v5 : Int32} {v6 : Int32} {p : Int32 × LH} (h : b_X11_decide N A v0 v1 v2 v3 v4 v5 v6 = some p) : V g m_X11_decide 5 n0 z0 (some (LI p.1)) p.2 A 0 [some (LR v0), some (LI v1), some (LI v2), some (LI v3), some (LI v4), some (LI v5), some (LI v6)] [] := by
  unfold b_X11_decide at h
  refine V.aload_n dX11_decide_0 rfl rfl ?_
  refine V.iconst dX11_decide_1 ki_0 ?_
  obtain ⟨A1, h2, h⟩ := bnd h
  refine V.putF h2 rfl rfl rfl CF11 (Nat.le_of_ble_eq_true rfl) fl_RX11_94 dX11_decide_2 ?_
  refine V.aload_n dX11_decide_5 rfl rfl ?_
  refine V.iload_n dX11_decide_6 rfl rfl ?_
  obtain ⟨p3, h4, h⟩ := bnd h
  have w5 := w_X11_isSlot (g := g) h4
  refine V.callVi (args := [LI v1]) (st := []) w5.1 (oo_X11_isSlot h4) mk_X11_isSlot w5.2 vc_11 ml_RX11_259 im_X11_isSlot se_X11_isSlot rfl (Nat.le_of_ble_eq_true rfl) (by decide) rfl (Nat.le_of_ble_eq_true rfl) dX11_decide_7 ?_
  refine V.if_eq (tgt := 26) dX11_decide_10 (by decide) (fun c6 => ?_) (fun c6 => ?_)
  · have h := (if_pos c6).symm.trans h
    refine V.bipush dX11_decide_26 kb_m2 ?_
    obtain rfl := Option.some.inj h
    exact V.ireturn dX11_decide_28
  · have h := (if_neg c6).symm.trans h
    refine V.aload_n dX11_decide_13 rfl rfl ?_
    refine V.iload_n dX11_decide_14 rfl rfl ?_
    refine V.iload_n dX11_decide_15 rfl rfl ?_
    refine V.iload dX11_decide_16 rfl ?_
    refine V.iload dX11_decide_18 rfl ?_
    obtain ⟨p7, h8, h⟩ := bnd h
    have w9 := w_X11_canAsk (g := g) h8
    refine V.callVi (args := [LI v2, LI v3, LI v4, LI v5]) (st := []) w9.1 (oo_X11_canAsk h8) mk_X11_canAsk w9.2 vc_11 ml_RX11_303 im_X11_canAsk se_X11_canAsk rfl (Nat.le_of_ble_eq_true rfl) (by decide) rfl (Nat.le_of_ble_eq_true rfl) dX11_decide_20 ?_
    refine V.if_ne (tgt := 29) dX11_decide_23 (by decide) (fun c10 => ?_) (fun c10 => ?_)
    · have h := (if_neg c10).symm.trans h
      refine V.aload_n dX11_decide_29 rfl rfl ?_
      refine V.iconst dX11_decide_30 ki_0 ?_
      obtain ⟨A11, h12, h⟩ := bnd h
      refine V.putF h12 rfl rfl rfl CF11 (Nat.le_of_ble_eq_true rfl) fl_RX11_288 dX11_decide_31 ?_
      refine V.aload_n dX11_decide_34 rfl rfl ?_
      refine V.iconst dX11_decide_35 ki_0 ?_
      obtain ⟨A13, h14, h⟩ := bnd h
      refine V.putF h14 rfl rfl rfl CF11 (Nat.le_of_ble_eq_true rfl) fl_RX11_285 dX11_decide_36 ?_
      refine V.iload dX11_decide_39 rfl ?_
      refine V.if_eq (tgt := 58) dX11_decide_41 (by decide) (fun c15 => ?_) (fun c15 => ?_)
      · have h := (if_pos c15).symm.trans h
        refine V.aload_n dX11_decide_58 rfl rfl ?_
        refine V.iload_n dX11_decide_59 rfl rfl ?_
        refine V.iload_n dX11_decide_60 rfl rfl ?_
        refine V.iload_n dX11_decide_61 rfl rfl ?_
        refine V.iload dX11_decide_62 rfl ?_
        refine V.iload dX11_decide_64 rfl ?_
        obtain ⟨p16, h17, h⟩ := bnd h
        have w18 := w_X11_isLet (g := g) N h17
        refine V.callVi (args := [LI v1, LI v2, LI v3, LI v4, LI v5]) (st := []) w18.1 (oo_X11_isLet h17) mk_X11_isLet w18.2 vc_11 ml_RX11_307 im_X11_isLet se_X11_isLet rfl (Nat.le_of_ble_eq_true rfl) (by decide) rfl (Nat.le_of_ble_eq_true rfl) dX11_decide_66 ?_
        refine V.if_eq (tgt := 76) dX11_decide_69 (by decide) (fun c19 => ?_) (fun c19 => ?_)
        · have h := (if_pos c19).symm.trans h
          refine V.iconst dX11_decide_76 ki_0 ?_
          obtain rfl := Option.some.inj h
          exact V.ireturn dX11_decide_77
        · have h := (if_neg c19).symm.trans h
          refine V.iconst dX11_decide_72 ki_1 ?_
          refine V.goto (tgt := 77) dX11_decide_73 (by decide) ?_
          obtain rfl := Option.some.inj h
          exact V.ireturn dX11_decide_77
      · have h := (if_neg c15).symm.trans h
        refine V.aload_n dX11_decide_44 rfl rfl ?_
        refine V.iload_n dX11_decide_45 rfl rfl ?_
        refine V.iload_n dX11_decide_46 rfl rfl ?_
        refine V.iload_n dX11_decide_47 rfl rfl ?_
        refine V.iload dX11_decide_48 rfl ?_
        refine V.iload dX11_decide_50 rfl ?_
        obtain ⟨p20, h21, h⟩ := bnd h
        have w22 := w_X11_decider (g := g) N h21
        refine V.callVi (args := [LI v1, LI v2, LI v3, LI v4, LI v5]) (st := []) w22.1 (oo_X11_decider h21) mk_X11_decider w22.2 vc_11 ml_RX11_299 im_X11_decider se_X11_decider rfl (Nat.le_of_ble_eq_true rfl) (by decide) rfl (Nat.le_of_ble_eq_true rfl) dX11_decide_52 ?_
        refine V.goto (tgt := 77) dX11_decide_55 (by decide) ?_
        obtain rfl := Option.some.inj h
        exact V.ireturn dX11_decide_77
    · have h := (if_pos c10).symm.trans h
      refine V.bipush dX11_decide_26 kb_m2 ?_
      obtain rfl := Option.some.inj h
      exact V.ireturn dX11_decide_28
def f_X11_decide (N : Nat) (A : LH) (v0 : Option Nat) (v1 : Int32) (v2 : Int32) (v3 : Int32) (v4 : Int32) (v5 : Int32) (v6 : Int32) : Option (Int32 × LH) := if isO A v0 11 = true then b_X11_decide N A v0 v1 v2 v3 v4 v5 v6 else none
theorem w_X11_decide {g : GG} (N : Nat) {A : LH} {v0 : Option Nat} {v1 : Int32} {v2 : Int32} {v3 : Int32} {v4 : Int32} {v5 : Int32} {v6 : Int32} {p : Int32 × LH} (h : f_X11_decide N A v0 v1 v2 v3 v4 v5 v6 = some p) : Ct g m_X11_decide 5 [LR v0, LI v1, LI v2, LI v3, LI v4, LI v5, LI v6] A (some (LI p.1)) p.2 := by
  unfold f_X11_decide at h
  obtain ⟨ho, h⟩ := ifN h
  exact ⟨wb_X11_decide N h, rfl⟩
theorem oo_X11_decide {N : Nat} {A : LH} {v0 : Option Nat} {v1 : Int32} {v2 : Int32} {v3 : Int32} {v4 : Int32} {v5 : Int32} {v6 : Int32} {p : Int32 × LH} (h : f_X11_decide N A v0 v1 v2 v3 v4 v5 v6 = some p) : isO A v0 11 = true := by unfold f_X11_decide at h; exact (ifN h).1
def b_X11_ask (A : LH) (v0 : Option Nat) (v1 : Int32) (v2 : Int32) (v3 : Int32) (v4 : Int32) : Option (Int32 × LH) :=
  (pF A v0 11 0 (LI (0 : Int32))).bind fun A1 => (f_X11_canAsk A1 v0 v1 v2 v3 v4).bind fun p3 => if p3 = 0 then some ((-1 : Int32), A1) else (gR A1 v0 11 10).bind fun x7 => (aI A1 x7 0 (0 : Int32)).bind fun x9 => if x9 = (200 : Int32) then some ((-1 : Int32), A1) else (gR A1 v0 11 10).bind fun x12 => (aI A1 x12 0 (0 : Int32)).bind fun x14 => (gR A1 v0 11 11).bind fun x16 => (sI A1 x16 0 ((4 : Int32) * x14) v1).bind fun A18 => (gR A18 v0 11 11).bind fun x20 => (sI A18 x20 0 (((4 : Int32) * x14) + (1 : Int32)) v2).bind fun A22 => (gR A22 v0 11 11).bind fun x24 => (sI A22 x24 0 (((4 : Int32) * x14) + (2 : Int32)) v3).bind fun A26 => (gR A26 v0 11 11).bind fun x28 => (sI A26 x28 0 (((4 : Int32) * x14) + (3 : Int32)) v4).bind fun A30 => (gR A30 v0 11 12).bind fun x32 => (gR A30 v0 11 10).bind fun x34 => (aI A30 x34 0 (0 : Int32)).bind fun x36 => (sI A30 x32 0 x36 (-1 : Int32)).bind fun A38 => (gR A38 v0 11 10).bind fun x40 => (aI A38 x40 0 (0 : Int32)).bind fun x42 => (sI A38 x40 0 (0 : Int32) (x42 + (1 : Int32))).bind fun A44 => (gR A44 v0 11 10).bind fun x46 => (aI A44 x46 0 (0 : Int32)).bind fun x48 => some ((x48 - (1 : Int32)), A44)
set_option maxRecDepth 4000 in
theorem wb_X11_ask {g : GG} {n0 z0 : Nat} {A : LH} {v0 : Option Nat} {v1 : Int32} {v2 : Int32} {v3 : Int32} {v4 : Int32} {p : Int32 × LH} (h : b_X11_ask A v0 v1 v2 v3 v4 = some p) : V g m_X11_ask 3 n0 z0 (some (LI p.1)) p.2 A 0 [some (LR v0), some (LI v1), some (LI v2), some (LI v3), some (LI v4)] [] := by
  unfold b_X11_ask at h
  refine V.aload_n dX11_ask_0 rfl rfl ?_
  refine V.iconst dX11_ask_1 ki_0 ?_
  obtain ⟨A1, h2, h⟩ := bnd h
  refine V.putF h2 rfl rfl rfl CF11 (Nat.le_of_ble_eq_true rfl) fl_RX11_94 dX11_ask_2 ?_
  refine V.aload_n dX11_ask_5 rfl rfl ?_
  refine V.iload_n dX11_ask_6 rfl rfl ?_
  refine V.iload_n dX11_ask_7 rfl rfl ?_
  refine V.iload_n dX11_ask_8 rfl rfl ?_
  refine V.iload dX11_ask_9 rfl ?_
  obtain ⟨p3, h4, h⟩ := bnd h
  have w5 := w_X11_canAsk (g := g) h4
  refine V.callVi (args := [LI v1, LI v2, LI v3, LI v4]) (st := []) w5.1 (oo_X11_canAsk h4) mk_X11_canAsk w5.2 vc_11 ml_RX11_303 im_X11_canAsk se_X11_canAsk rfl (Nat.le_of_ble_eq_true rfl) (by decide) rfl (Nat.le_of_ble_eq_true rfl) dX11_ask_11 ?_
  refine V.if_eq (tgt := 29) dX11_ask_14 (by decide) (fun c6 => ?_) (fun c6 => ?_)
  · have h := (if_pos c6).symm.trans h
    refine V.iconst dX11_ask_29 ki_m1 ?_
    obtain rfl := Option.some.inj h
    exact V.ireturn dX11_ask_30
  · have h := (if_neg c6).symm.trans h
    refine V.aload_n dX11_ask_17 rfl rfl ?_
    obtain ⟨x7, h8, h⟩ := bnd h
    refine V.getF (gR_F h8) CF11 (Nat.le_of_ble_eq_true rfl) fl_RX11_35 dX11_ask_18 ?_
    refine V.iconst dX11_ask_21 ki_0 ?_
    obtain ⟨x9, h10, h⟩ := bnd h
    refine V.iald h10 dX11_ask_22 ?_
    refine V.sipush dX11_ask_23 ks_200 ?_
    refine V.icmp_ne (tgt := 31) dX11_ask_26 (by decide) (fun c11 => ?_) (fun c11 => ?_)
    · have h := (if_neg c11).symm.trans h
      refine V.iconst dX11_ask_31 ki_4 ?_
      refine V.aload_n dX11_ask_32 rfl rfl ?_
      obtain ⟨x12, h13, h⟩ := bnd h
      refine V.getF (gR_F h13) CF11 (Nat.le_of_ble_eq_true rfl) fl_RX11_35 dX11_ask_33 ?_
      refine V.iconst dX11_ask_36 ki_0 ?_
      obtain ⟨x14, h15, h⟩ := bnd h
      refine V.iald h15 dX11_ask_37 ?_
      refine V.imul dX11_ask_38 ?_
      refine V.istore (ls' := [some (LR v0), some (LI v1), some (LI v2), some (LI v3), some (LI v4), some (LI ((4 : Int32) * x14))]) dX11_ask_39 (by decide) rfl rfl ?_
      refine V.aload_n dX11_ask_41 rfl rfl ?_
      obtain ⟨x16, h17, h⟩ := bnd h
      refine V.getF (gR_F h17) CF11 (Nat.le_of_ble_eq_true rfl) fl_RX11_38 dX11_ask_42 ?_
      refine V.iload dX11_ask_45 rfl ?_
      refine V.iload_n dX11_ask_47 rfl rfl ?_
      obtain ⟨A18, h19, h⟩ := bnd h
      refine V.iast h19 dX11_ask_48 ?_
      refine V.aload_n dX11_ask_49 rfl rfl ?_
      obtain ⟨x20, h21, h⟩ := bnd h
      refine V.getF (gR_F h21) CF11 (Nat.le_of_ble_eq_true rfl) fl_RX11_38 dX11_ask_50 ?_
      refine V.iload dX11_ask_53 rfl ?_
      refine V.iconst dX11_ask_55 ki_1 ?_
      refine V.iadd dX11_ask_56 ?_
      refine V.iload_n dX11_ask_57 rfl rfl ?_
      obtain ⟨A22, h23, h⟩ := bnd h
      refine V.iast h23 dX11_ask_58 ?_
      refine V.aload_n dX11_ask_59 rfl rfl ?_
      obtain ⟨x24, h25, h⟩ := bnd h
      refine V.getF (gR_F h25) CF11 (Nat.le_of_ble_eq_true rfl) fl_RX11_38 dX11_ask_60 ?_
      refine V.iload dX11_ask_63 rfl ?_
      refine V.iconst dX11_ask_65 ki_2 ?_
      refine V.iadd dX11_ask_66 ?_
      refine V.iload_n dX11_ask_67 rfl rfl ?_
      obtain ⟨A26, h27, h⟩ := bnd h
      refine V.iast h27 dX11_ask_68 ?_
      refine V.aload_n dX11_ask_69 rfl rfl ?_
      obtain ⟨x28, h29, h⟩ := bnd h
      refine V.getF (gR_F h29) CF11 (Nat.le_of_ble_eq_true rfl) fl_RX11_38 dX11_ask_70 ?_
      refine V.iload dX11_ask_73 rfl ?_
      refine V.iconst dX11_ask_75 ki_3 ?_
      refine V.iadd dX11_ask_76 ?_
      refine V.iload dX11_ask_77 rfl ?_
      obtain ⟨A30, h31, h⟩ := bnd h
      refine V.iast h31 dX11_ask_79 ?_
      refine V.aload_n dX11_ask_80 rfl rfl ?_
      obtain ⟨x32, h33, h⟩ := bnd h
      refine V.getF (gR_F h33) CF11 (Nat.le_of_ble_eq_true rfl) fl_RX11_41 dX11_ask_81 ?_
      refine V.aload_n dX11_ask_84 rfl rfl ?_
      obtain ⟨x34, h35, h⟩ := bnd h
      refine V.getF (gR_F h35) CF11 (Nat.le_of_ble_eq_true rfl) fl_RX11_35 dX11_ask_85 ?_
      refine V.iconst dX11_ask_88 ki_0 ?_
      obtain ⟨x36, h37, h⟩ := bnd h
      refine V.iald h37 dX11_ask_89 ?_
      refine V.iconst dX11_ask_90 ki_m1 ?_
      obtain ⟨A38, h39, h⟩ := bnd h
      refine V.iast h39 dX11_ask_91 ?_
      refine V.aload_n dX11_ask_92 rfl rfl ?_
      obtain ⟨x40, h41, h⟩ := bnd h
      refine V.getF (gR_F h41) CF11 (Nat.le_of_ble_eq_true rfl) fl_RX11_35 dX11_ask_93 ?_
      refine V.iconst dX11_ask_96 ki_0 ?_
      refine V.dup2 dX11_ask_97 rfl rfl ?_
      obtain ⟨x42, h43, h⟩ := bnd h
      refine V.iald h43 dX11_ask_98 ?_
      refine V.iconst dX11_ask_99 ki_1 ?_
      refine V.iadd dX11_ask_100 ?_
      obtain ⟨A44, h45, h⟩ := bnd h
      refine V.iast h45 dX11_ask_101 ?_
      refine V.aload_n dX11_ask_102 rfl rfl ?_
      obtain ⟨x46, h47, h⟩ := bnd h
      refine V.getF (gR_F h47) CF11 (Nat.le_of_ble_eq_true rfl) fl_RX11_35 dX11_ask_103 ?_
      refine V.iconst dX11_ask_106 ki_0 ?_
      obtain ⟨x48, h49, h⟩ := bnd h
      refine V.iald h49 dX11_ask_107 ?_
      refine V.iconst dX11_ask_108 ki_1 ?_
      refine V.isub dX11_ask_109 ?_
      obtain rfl := Option.some.inj h
      exact V.ireturn dX11_ask_110
    · have h := (if_pos c11).symm.trans h
      refine V.iconst dX11_ask_29 ki_m1 ?_
      obtain rfl := Option.some.inj h
      exact V.ireturn dX11_ask_30
def f_X11_ask (A : LH) (v0 : Option Nat) (v1 : Int32) (v2 : Int32) (v3 : Int32) (v4 : Int32) : Option (Int32 × LH) := if isO A v0 11 = true then b_X11_ask A v0 v1 v2 v3 v4 else none
theorem w_X11_ask {g : GG} {A : LH} {v0 : Option Nat} {v1 : Int32} {v2 : Int32} {v3 : Int32} {v4 : Int32} {p : Int32 × LH} (h : f_X11_ask A v0 v1 v2 v3 v4 = some p) : Ct g m_X11_ask 3 [LR v0, LI v1, LI v2, LI v3, LI v4] A (some (LI p.1)) p.2 := by
  unfold f_X11_ask at h
  obtain ⟨ho, h⟩ := ifN h
  exact ⟨wb_X11_ask h, rfl⟩
theorem oo_X11_ask {A : LH} {v0 : Option Nat} {v1 : Int32} {v2 : Int32} {v3 : Int32} {v4 : Int32} {p : Int32 × LH} (h : f_X11_ask A v0 v1 v2 v3 v4 = some p) : isO A v0 11 = true := by unfold f_X11_ask at h; exact (ifN h).1
def b_X11_mark (A : LH) (v0 : Option Nat) (v1 : Int32) (v2 : Int32) : Option (Int32 × LH) :=
  (pF A v0 11 0 (LI (0 : Int32))).bind fun A1 => (gR A1 v0 11 10).bind fun x3 => (aI A1 x3 0 (0 : Int32)).bind fun x5 => (f_X11_in v1 (0 : Int32) (x5 - (1 : Int32))).bind fun p7 => if p7 = 0 then some ((0 : Int32), A1) else (f_X11_in v2 (-1 : Int32) (1 : Int32)).bind fun p11 => if p11 = 0 then some ((0 : Int32), A1) else (gR A1 v0 11 12).bind fun x15 => (sI A1 x15 0 v1 v2).bind fun A17 => some ((1 : Int32), A17)
set_option maxRecDepth 4000 in
theorem wb_X11_mark {g : GG} {n0 z0 : Nat} {A : LH} {v0 : Option Nat} {v1 : Int32} {v2 : Int32} {p : Int32 × LH} (h : b_X11_mark A v0 v1 v2 = some p) : V g m_X11_mark 1 n0 z0 (some (LI p.1)) p.2 A 0 [some (LR v0), some (LI v1), some (LI v2)] [] := by
  unfold b_X11_mark at h
  refine V.aload_n dX11_mark_0 rfl rfl ?_
  refine V.iconst dX11_mark_1 ki_0 ?_
  obtain ⟨A1, h2, h⟩ := bnd h
  refine V.putF h2 rfl rfl rfl CF11 (Nat.le_of_ble_eq_true rfl) fl_RX11_94 dX11_mark_2 ?_
  refine V.iload_n dX11_mark_5 rfl rfl ?_
  refine V.iconst dX11_mark_6 ki_0 ?_
  refine V.aload_n dX11_mark_7 rfl rfl ?_
  obtain ⟨x3, h4, h⟩ := bnd h
  refine V.getF (gR_F h4) CF11 (Nat.le_of_ble_eq_true rfl) fl_RX11_35 dX11_mark_8 ?_
  refine V.iconst dX11_mark_11 ki_0 ?_
  obtain ⟨x5, h6, h⟩ := bnd h
  refine V.iald h6 dX11_mark_12 ?_
  refine V.iconst dX11_mark_13 ki_1 ?_
  refine V.isub dX11_mark_14 ?_
  obtain ⟨p7, h8, h⟩ := bnd h
  have w9 := w_X11_in (g := g) (A := A1) h8
  refine V.callSi (args := [LI v1, LI (0 : Int32), LI (x5 - (1 : Int32))]) (st := []) w9.1 mk_X11_in w9.2 ml_RX11_108 sm_X11_in rfl (Nat.le_of_ble_eq_true rfl) (by decide) rfl (Nat.le_of_ble_eq_true rfl) dX11_mark_15 ?_
  refine V.if_eq (tgt := 30) dX11_mark_18 (by decide) (fun c10 => ?_) (fun c10 => ?_)
  · have h := (if_pos c10).symm.trans h
    refine V.iconst dX11_mark_30 ki_0 ?_
    obtain rfl := Option.some.inj h
    exact V.ireturn dX11_mark_31
  · have h := (if_neg c10).symm.trans h
    refine V.iload_n dX11_mark_21 rfl rfl ?_
    refine V.iconst dX11_mark_22 ki_m1 ?_
    refine V.iconst dX11_mark_23 ki_1 ?_
    obtain ⟨p11, h12, h⟩ := bnd h
    have w13 := w_X11_in (g := g) (A := A1) h12
    refine V.callSi (args := [LI v2, LI (-1 : Int32), LI (1 : Int32)]) (st := []) w13.1 mk_X11_in w13.2 ml_RX11_108 sm_X11_in rfl (Nat.le_of_ble_eq_true rfl) (by decide) rfl (Nat.le_of_ble_eq_true rfl) dX11_mark_24 ?_
    refine V.if_ne (tgt := 32) dX11_mark_27 (by decide) (fun c14 => ?_) (fun c14 => ?_)
    · have h := (if_neg c14).symm.trans h
      refine V.aload_n dX11_mark_32 rfl rfl ?_
      obtain ⟨x15, h16, h⟩ := bnd h
      refine V.getF (gR_F h16) CF11 (Nat.le_of_ble_eq_true rfl) fl_RX11_41 dX11_mark_33 ?_
      refine V.iload_n dX11_mark_36 rfl rfl ?_
      refine V.iload_n dX11_mark_37 rfl rfl ?_
      obtain ⟨A17, h18, h⟩ := bnd h
      refine V.iast h18 dX11_mark_38 ?_
      refine V.iconst dX11_mark_39 ki_1 ?_
      obtain rfl := Option.some.inj h
      exact V.ireturn dX11_mark_40
    · have h := (if_pos c14).symm.trans h
      refine V.iconst dX11_mark_30 ki_0 ?_
      obtain rfl := Option.some.inj h
      exact V.ireturn dX11_mark_31
def f_X11_mark (A : LH) (v0 : Option Nat) (v1 : Int32) (v2 : Int32) : Option (Int32 × LH) := if isO A v0 11 = true then zc (b_X11_mark A v0 v1 v2) else none
theorem w_X11_mark {g : GG} {A : LH} {v0 : Option Nat} {v1 : Int32} {v2 : Int32} {p : Int32 × LH} (h : f_X11_mark A v0 v1 v2 = some p) : Ct g m_X11_mark 1 [LR v0, LI v1, LI v2] A (some (LI p.1)) p.2 := by
  unfold f_X11_mark at h
  obtain ⟨ho, h⟩ := ifN h
  obtain ⟨h, hz⟩ := zc_sp h
  exact ⟨wb_X11_mark h, (RTz hz)⟩
theorem oo_X11_mark {A : LH} {v0 : Option Nat} {v1 : Int32} {v2 : Int32} {p : Int32 × LH} (h : f_X11_mark A v0 v1 v2 = some p) : isO A v0 11 = true := by unfold f_X11_mark at h; exact (ifN h).1
def b_X11_book (A : LH) (v0 : Option Nat) (v1 : Int32) (v2 : Int32) : Option (Int32 × LH) :=
  (pF A v0 11 0 (LI (0 : Int32))).bind fun A1 => (gR A1 v0 11 10).bind fun x3 => (aI A1 x3 0 (0 : Int32)).bind fun x5 => (f_X11_in v1 (0 : Int32) (x5 - (1 : Int32))).bind fun p7 => if p7 = 0 then some ((-1 : Int32), A1) else if v2 = (4 : Int32) then (gR A1 v0 11 12).bind fun x20 => (aI A1 x20 0 v1).bind fun x22 => some (x22, A1) else (f_X11_in v2 (0 : Int32) (3 : Int32)).bind fun p12 => if p12 = 0 then some ((-1 : Int32), A1) else (gR A1 v0 11 11).bind fun x16 => (aI A1 x16 0 (((4 : Int32) * v1) + v2)).bind fun x18 => some (x18, A1)
set_option maxRecDepth 4000 in
theorem wb_X11_book {g : GG} {n0 z0 : Nat} {A : LH} {v0 : Option Nat} {v1 : Int32} {v2 : Int32} {p : Int32 × LH} (h : b_X11_book A v0 v1 v2 = some p) : V g m_X11_book 1 n0 z0 (some (LI p.1)) p.2 A 0 [some (LR v0), some (LI v1), some (LI v2)] [] := by
  unfold b_X11_book at h
  refine V.aload_n dX11_book_0 rfl rfl ?_
  refine V.iconst dX11_book_1 ki_0 ?_
  obtain ⟨A1, h2, h⟩ := bnd h
  refine V.putF h2 rfl rfl rfl CF11 (Nat.le_of_ble_eq_true rfl) fl_RX11_94 dX11_book_2 ?_
  refine V.iload_n dX11_book_5 rfl rfl ?_
  refine V.iconst dX11_book_6 ki_0 ?_
  refine V.aload_n dX11_book_7 rfl rfl ?_
  obtain ⟨x3, h4, h⟩ := bnd h
  refine V.getF (gR_F h4) CF11 (Nat.le_of_ble_eq_true rfl) fl_RX11_35 dX11_book_8 ?_
  refine V.iconst dX11_book_11 ki_0 ?_
  obtain ⟨x5, h6, h⟩ := bnd h
  refine V.iald h6 dX11_book_12 ?_
  refine V.iconst dX11_book_13 ki_1 ?_
  refine V.isub dX11_book_14 ?_
  obtain ⟨p7, h8, h⟩ := bnd h
  have w9 := w_X11_in (g := g) (A := A1) h8
  refine V.callSi (args := [LI v1, LI (0 : Int32), LI (x5 - (1 : Int32))]) (st := []) w9.1 mk_X11_in w9.2 ml_RX11_108 sm_X11_in rfl (Nat.le_of_ble_eq_true rfl) (by decide) rfl (Nat.le_of_ble_eq_true rfl) dX11_book_15 ?_
  refine V.if_ne (tgt := 23) dX11_book_18 (by decide) (fun c10 => ?_) (fun c10 => ?_)
  · have h := (if_neg c10).symm.trans h
    refine V.iload_n dX11_book_23 rfl rfl ?_
    refine V.iconst dX11_book_24 ki_4 ?_
    refine V.icmp_ne (tgt := 37) dX11_book_25 (by decide) (fun c11 => ?_) (fun c11 => ?_)
    · have h := (if_neg c11).symm.trans h
      refine V.iload_n dX11_book_37 rfl rfl ?_
      refine V.iconst dX11_book_38 ki_0 ?_
      refine V.iconst dX11_book_39 ki_3 ?_
      obtain ⟨p12, h13, h⟩ := bnd h
      have w14 := w_X11_in (g := g) (A := A1) h13
      refine V.callSi (args := [LI v2, LI (0 : Int32), LI (3 : Int32)]) (st := []) w14.1 mk_X11_in w14.2 ml_RX11_108 sm_X11_in rfl (Nat.le_of_ble_eq_true rfl) (by decide) rfl (Nat.le_of_ble_eq_true rfl) dX11_book_40 ?_
      refine V.if_eq (tgt := 59) dX11_book_43 (by decide) (fun c15 => ?_) (fun c15 => ?_)
      · have h := (if_pos c15).symm.trans h
        refine V.iconst dX11_book_59 ki_m1 ?_
        obtain rfl := Option.some.inj h
        exact V.ireturn dX11_book_60
      · have h := (if_neg c15).symm.trans h
        refine V.aload_n dX11_book_46 rfl rfl ?_
        obtain ⟨x16, h17, h⟩ := bnd h
        refine V.getF (gR_F h17) CF11 (Nat.le_of_ble_eq_true rfl) fl_RX11_38 dX11_book_47 ?_
        refine V.iconst dX11_book_50 ki_4 ?_
        refine V.iload_n dX11_book_51 rfl rfl ?_
        refine V.imul dX11_book_52 ?_
        refine V.iload_n dX11_book_53 rfl rfl ?_
        refine V.iadd dX11_book_54 ?_
        obtain ⟨x18, h19, h⟩ := bnd h
        refine V.iald h19 dX11_book_55 ?_
        refine V.goto (tgt := 60) dX11_book_56 (by decide) ?_
        obtain rfl := Option.some.inj h
        exact V.ireturn dX11_book_60
    · have h := (if_pos c11).symm.trans h
      refine V.aload_n dX11_book_28 rfl rfl ?_
      obtain ⟨x20, h21, h⟩ := bnd h
      refine V.getF (gR_F h21) CF11 (Nat.le_of_ble_eq_true rfl) fl_RX11_41 dX11_book_29 ?_
      refine V.iload_n dX11_book_32 rfl rfl ?_
      obtain ⟨x22, h23, h⟩ := bnd h
      refine V.iald h23 dX11_book_33 ?_
      refine V.goto (tgt := 60) dX11_book_34 (by decide) ?_
      obtain rfl := Option.some.inj h
      exact V.ireturn dX11_book_60
  · have h := (if_pos c10).symm.trans h
    refine V.iconst dX11_book_21 ki_m1 ?_
    obtain rfl := Option.some.inj h
    exact V.ireturn dX11_book_22
def f_X11_book (A : LH) (v0 : Option Nat) (v1 : Int32) (v2 : Int32) : Option (Int32 × LH) := if isO A v0 11 = true then b_X11_book A v0 v1 v2 else none
theorem w_X11_book {g : GG} {A : LH} {v0 : Option Nat} {v1 : Int32} {v2 : Int32} {p : Int32 × LH} (h : f_X11_book A v0 v1 v2 = some p) : Ct g m_X11_book 1 [LR v0, LI v1, LI v2] A (some (LI p.1)) p.2 := by
  unfold f_X11_book at h
  obtain ⟨ho, h⟩ := ifN h
  exact ⟨wb_X11_book h, rfl⟩
theorem oo_X11_book {A : LH} {v0 : Option Nat} {v1 : Int32} {v2 : Int32} {p : Int32 × LH} (h : f_X11_book A v0 v1 v2 = some p) : isO A v0 11 = true := by unfold f_X11_book at h; exact (ifN h).1
def b_X11_isAskLet (N : Nat) (A : LH) (v0 : Option Nat) (v1 : Int32) (v2 : Int32) : Option (Int32 × LH) :=
  (gR A v0 11 11).bind fun x1 => (aI A x1 0 ((4 : Int32) * v2)).bind fun x3 => (gR A v0 11 11).bind fun x5 => (aI A x5 0 (((4 : Int32) * v2) + (1 : Int32))).bind fun x7 => (gR A v0 11 11).bind fun x9 => (aI A x9 0 (((4 : Int32) * v2) + (2 : Int32))).bind fun x11 => (gR A v0 11 11).bind fun x13 => (aI A x13 0 (((4 : Int32) * v2) + (3 : Int32))).bind fun x15 => (f_X11_isLet N A v0 v1 x3 x7 x11 x15).bind fun p17 => some (p17.1, p17.2)
set_option maxRecDepth 4000 in
theorem wb_X11_isAskLet {g : GG} {n0 z0 : Nat} (N : Nat) {A : LH} {v0 : Option Nat} {v1 : Int32} {v2 : Int32} {p : Int32 × LH} (h : b_X11_isAskLet N A v0 v1 v2 = some p) : V g m_X11_isAskLet 5 n0 z0 (some (LI p.1)) p.2 A 0 [some (LR v0), some (LI v1), some (LI v2)] [] := by
  unfold b_X11_isAskLet at h
  refine V.aload_n dX11_isAskLet_0 rfl rfl ?_
  refine V.iload_n dX11_isAskLet_1 rfl rfl ?_
  refine V.aload_n dX11_isAskLet_2 rfl rfl ?_
  obtain ⟨x1, h2, h⟩ := bnd h
  refine V.getF (gR_F h2) CF11 (Nat.le_of_ble_eq_true rfl) fl_RX11_38 dX11_isAskLet_3 ?_
  refine V.iconst dX11_isAskLet_6 ki_4 ?_
  refine V.iload_n dX11_isAskLet_7 rfl rfl ?_
  refine V.imul dX11_isAskLet_8 ?_
  obtain ⟨x3, h4, h⟩ := bnd h
  refine V.iald h4 dX11_isAskLet_9 ?_
  refine V.aload_n dX11_isAskLet_10 rfl rfl ?_
  obtain ⟨x5, h6, h⟩ := bnd h
  refine V.getF (gR_F h6) CF11 (Nat.le_of_ble_eq_true rfl) fl_RX11_38 dX11_isAskLet_11 ?_
  refine V.iconst dX11_isAskLet_14 ki_4 ?_
  refine V.iload_n dX11_isAskLet_15 rfl rfl ?_
  refine V.imul dX11_isAskLet_16 ?_
  refine V.iconst dX11_isAskLet_17 ki_1 ?_
  refine V.iadd dX11_isAskLet_18 ?_
  obtain ⟨x7, h8, h⟩ := bnd h
  refine V.iald h8 dX11_isAskLet_19 ?_
  refine V.aload_n dX11_isAskLet_20 rfl rfl ?_
  obtain ⟨x9, h10, h⟩ := bnd h
  refine V.getF (gR_F h10) CF11 (Nat.le_of_ble_eq_true rfl) fl_RX11_38 dX11_isAskLet_21 ?_
  refine V.iconst dX11_isAskLet_24 ki_4 ?_
  refine V.iload_n dX11_isAskLet_25 rfl rfl ?_
  refine V.imul dX11_isAskLet_26 ?_
  refine V.iconst dX11_isAskLet_27 ki_2 ?_
  refine V.iadd dX11_isAskLet_28 ?_
  obtain ⟨x11, h12, h⟩ := bnd h
  refine V.iald h12 dX11_isAskLet_29 ?_
  refine V.aload_n dX11_isAskLet_30 rfl rfl ?_
  obtain ⟨x13, h14, h⟩ := bnd h
  refine V.getF (gR_F h14) CF11 (Nat.le_of_ble_eq_true rfl) fl_RX11_38 dX11_isAskLet_31 ?_
  refine V.iconst dX11_isAskLet_34 ki_4 ?_
  refine V.iload_n dX11_isAskLet_35 rfl rfl ?_
  refine V.imul dX11_isAskLet_36 ?_
  refine V.iconst dX11_isAskLet_37 ki_3 ?_
  refine V.iadd dX11_isAskLet_38 ?_
  obtain ⟨x15, h16, h⟩ := bnd h
  refine V.iald h16 dX11_isAskLet_39 ?_
  obtain ⟨p17, h18, h⟩ := bnd h
  have w19 := w_X11_isLet (g := g) N h18
  refine V.callVi (args := [LI v1, LI x3, LI x7, LI x11, LI x15]) (st := []) w19.1 (oo_X11_isLet h18) mk_X11_isLet w19.2 vc_11 ml_RX11_307 im_X11_isLet se_X11_isLet rfl (Nat.le_of_ble_eq_true rfl) (by decide) rfl (Nat.le_of_ble_eq_true rfl) dX11_isAskLet_40 ?_
  obtain rfl := Option.some.inj h
  exact V.ireturn dX11_isAskLet_43
def f_X11_isAskLet (N : Nat) (A : LH) (v0 : Option Nat) (v1 : Int32) (v2 : Int32) : Option (Int32 × LH) := if isO A v0 11 = true then zc (b_X11_isAskLet N A v0 v1 v2) else none
theorem w_X11_isAskLet {g : GG} (N : Nat) {A : LH} {v0 : Option Nat} {v1 : Int32} {v2 : Int32} {p : Int32 × LH} (h : f_X11_isAskLet N A v0 v1 v2 = some p) : Ct g m_X11_isAskLet 5 [LR v0, LI v1, LI v2] A (some (LI p.1)) p.2 := by
  unfold f_X11_isAskLet at h
  obtain ⟨ho, h⟩ := ifN h
  obtain ⟨h, hz⟩ := zc_sp h
  exact ⟨wb_X11_isAskLet N h, (RTz hz)⟩
theorem oo_X11_isAskLet {N : Nat} {A : LH} {v0 : Option Nat} {v1 : Int32} {v2 : Int32} {p : Int32 × LH} (h : f_X11_isAskLet N A v0 v1 v2 = some p) : isO A v0 11 = true := by unfold f_X11_isAskLet at h; exact (ifN h).1
def b_X11_tried_29 (N : Nat) (k29 : LH → Option Nat → Int32 → Int32 → Int32 → Option (Int32 × LH)) (A : LH) (v0 : Option Nat) (v1 : Int32) (v2 : Int32) (v3 : Int32) : Option (Int32 × LH) :=
  (gR A v0 11 10).bind fun x11 => (aI A x11 0 (0 : Int32)).bind fun x13 => if x13 ≤ v3 then some (v2, A) else (f_X11_isAskLet N A v0 v1 v3).bind fun p16 => if p16.1 = 0 then k29 p16.2 v0 v1 (v2 + (0 : Int32)) (v3 + (1 : Int32)) else k29 p16.2 v0 v1 (v2 + (1 : Int32)) (v3 + (1 : Int32))
set_option maxRecDepth 4000 in
theorem wb_X11_tried_29 {g : GG} {n0 z0 : Nat} (N : Nat) {k29 : LH → Option Nat → Int32 → Int32 → Int32 → Option (Int32 × LH)} {A : LH} {v0 : Option Nat} {v1 : Int32} {v2 : Int32} {v3 : Int32} {p : Int32 × LH} (hk29 : ∀ {A : LH} {v0 : Option Nat} {v1 : Int32} {v2 : Int32} {v3 : Int32} {p : Int32 × LH}, k29 A v0 v1 v2 v3 = some p → V g m_X11_tried 6 n0 z0 (some (LI p.1)) p.2 A 29 [some (LR v0), some (LI v1), some (LI v2), some (LI v3)] []) (h : b_X11_tried_29 N k29 A v0 v1 v2 v3 = some p) : V g m_X11_tried 6 n0 z0 (some (LI p.1)) p.2 A 29 [some (LR v0), some (LI v1), some (LI v2), some (LI v3)] [] := by
  unfold b_X11_tried_29 at h
  refine V.iload_n dX11_tried_29 rfl rfl ?_
  refine V.aload_n dX11_tried_30 rfl rfl ?_
  obtain ⟨x11, h12, h⟩ := bnd h
  refine V.getF (gR_F h12) CF11 (Nat.le_of_ble_eq_true rfl) fl_RX11_35 dX11_tried_31 ?_
  refine V.iconst dX11_tried_34 ki_0 ?_
  obtain ⟨x13, h14, h⟩ := bnd h
  refine V.iald h14 dX11_tried_35 ?_
  refine V.icmp_ge (tgt := 62) dX11_tried_36 (by decide) (fun c15 => ?_) (fun c15 => ?_)
  · have h := (if_pos c15).symm.trans h
    refine V.iload_n dX11_tried_62 rfl rfl ?_
    obtain rfl := Option.some.inj h
    exact V.ireturn dX11_tried_63
  · have h := (if_neg c15).symm.trans h
    refine V.iload_n dX11_tried_39 rfl rfl ?_
    refine V.aload_n dX11_tried_40 rfl rfl ?_
    refine V.iload_n dX11_tried_41 rfl rfl ?_
    refine V.iload_n dX11_tried_42 rfl rfl ?_
    obtain ⟨p16, h17, h⟩ := bnd h
    have w18 := w_X11_isAskLet (g := g) N h17
    refine V.callVi (args := [LI v1, LI v3]) (st := [LI v2]) w18.1 (oo_X11_isAskLet h17) mk_X11_isAskLet w18.2 vc_11 ml_RX11_310 im_X11_isAskLet se_X11_isAskLet rfl (Nat.le_of_ble_eq_true rfl) (by decide) rfl (Nat.le_of_ble_eq_true rfl) dX11_tried_43 ?_
    refine V.if_eq (tgt := 53) dX11_tried_46 (by decide) (fun c19 => ?_) (fun c19 => ?_)
    · have h := (if_pos c19).symm.trans h
      refine V.iconst dX11_tried_53 ki_0 ?_
      refine V.iadd dX11_tried_54 ?_
      refine V.istore_n (ls' := [some (LR v0), some (LI v1), some (LI (v2 + (0 : Int32))), some (LI v3)]) dX11_tried_55 rfl (by decide) rfl rfl ?_
      refine V.iinc (ls' := [some (LR v0), some (LI v1), some (LI (v2 + (0 : Int32))), some (LI (v3 + (1 : Int32)))]) dX11_tried_56 rfl ki_1 (by decide) rfl rfl ?_
      refine V.goto (tgt := 29) dX11_tried_59 (by decide) ?_
      refine V.weak [true, true, true, true] ?_
      exact hk29 h
    · have h := (if_neg c19).symm.trans h
      refine V.iconst dX11_tried_49 ki_1 ?_
      refine V.goto (tgt := 54) dX11_tried_50 (by decide) ?_
      refine V.iadd dX11_tried_54 ?_
      refine V.istore_n (ls' := [some (LR v0), some (LI v1), some (LI (v2 + (1 : Int32))), some (LI v3)]) dX11_tried_55 rfl (by decide) rfl rfl ?_
      refine V.iinc (ls' := [some (LR v0), some (LI v1), some (LI (v2 + (1 : Int32))), some (LI (v3 + (1 : Int32)))]) dX11_tried_56 rfl ki_1 (by decide) rfl rfl ?_
      refine V.goto (tgt := 29) dX11_tried_59 (by decide) ?_
      refine V.weak [true, true, true, true] ?_
      exact hk29 h
def l_X11_tried_29 (N : Nat) : Nat → LH → Option Nat → Int32 → Int32 → Int32 → Option (Int32 × LH)
  | 0, _, _, _, _, _ => none
  | n + 1, A, v0, v1, v2, v3 => b_X11_tried_29 N (l_X11_tried_29 N n) A v0 v1 v2 v3
theorem wl_X11_tried_29 {g : GG} {n0 z0 : Nat} (N : Nat) : ∀ (n : Nat) {A : LH} {v0 : Option Nat} {v1 : Int32} {v2 : Int32} {v3 : Int32} {p : Int32 × LH}, l_X11_tried_29 N n A v0 v1 v2 v3 = some p → V g m_X11_tried 6 n0 z0 (some (LI p.1)) p.2 A 29 [some (LR v0), some (LI v1), some (LI v2), some (LI v3)] []
  | 0, _, _, _, _, _, _, h => nomatch h
  | n + 1, _, _, _, _, _, _, h => wb_X11_tried_29 N (wl_X11_tried_29 N n) h
def b_X11_tried (N : Nat) (A : LH) (v0 : Option Nat) (v1 : Int32) : Option (Int32 × LH) :=
  (pF A v0 11 0 (LI (0 : Int32))).bind fun A1 => (f_X11_isSlot A1 v0 v1).bind fun p3 => if p3 = 0 then some ((-1 : Int32), A1) else (pF A1 v0 11 39 (LI (0 : Int32))).bind fun A7 => (pF A7 v0 11 40 (LI (0 : Int32))).bind fun A9 => l_X11_tried_29 N N A9 v0 v1 (0 : Int32) (0 : Int32)
set_option maxRecDepth 4000 in
theorem wb_X11_tried {g : GG} {n0 z0 : Nat} (N : Nat) {A : LH} {v0 : Option Nat} {v1 : Int32} {p : Int32 × LH} (h : b_X11_tried N A v0 v1 = some p) : V g m_X11_tried 6 n0 z0 (some (LI p.1)) p.2 A 0 [some (LR v0), some (LI v1)] [] := by
  unfold b_X11_tried at h
  refine V.aload_n dX11_tried_0 rfl rfl ?_
  refine V.iconst dX11_tried_1 ki_0 ?_
  obtain ⟨A1, h2, h⟩ := bnd h
  refine V.putF h2 rfl rfl rfl CF11 (Nat.le_of_ble_eq_true rfl) fl_RX11_94 dX11_tried_2 ?_
  refine V.aload_n dX11_tried_5 rfl rfl ?_
  refine V.iload_n dX11_tried_6 rfl rfl ?_
  obtain ⟨p3, h4, h⟩ := bnd h
  have w5 := w_X11_isSlot (g := g) h4
  refine V.callVi (args := [LI v1]) (st := []) w5.1 (oo_X11_isSlot h4) mk_X11_isSlot w5.2 vc_11 ml_RX11_259 im_X11_isSlot se_X11_isSlot rfl (Nat.le_of_ble_eq_true rfl) (by decide) rfl (Nat.le_of_ble_eq_true rfl) dX11_tried_7 ?_
  refine V.if_ne (tgt := 15) dX11_tried_10 (by decide) (fun c6 => ?_) (fun c6 => ?_)
  · have h := (if_neg c6).symm.trans h
    refine V.aload_n dX11_tried_15 rfl rfl ?_
    refine V.iconst dX11_tried_16 ki_0 ?_
    obtain ⟨A7, h8, h⟩ := bnd h
    refine V.putF h8 rfl rfl rfl CF11 (Nat.le_of_ble_eq_true rfl) fl_RX11_288 dX11_tried_17 ?_
    refine V.aload_n dX11_tried_20 rfl rfl ?_
    refine V.iconst dX11_tried_21 ki_0 ?_
    obtain ⟨A9, h10, h⟩ := bnd h
    refine V.putF h10 rfl rfl rfl CF11 (Nat.le_of_ble_eq_true rfl) fl_RX11_285 dX11_tried_22 ?_
    refine V.iconst dX11_tried_25 ki_0 ?_
    refine V.istore_n (ls' := [some (LR v0), some (LI v1), some (LI (0 : Int32))]) dX11_tried_26 rfl (by decide) rfl rfl ?_
    refine V.iconst dX11_tried_27 ki_0 ?_
    refine V.istore_n (ls' := [some (LR v0), some (LI v1), some (LI (0 : Int32)), some (LI (0 : Int32))]) dX11_tried_28 rfl (by decide) rfl rfl ?_
    refine V.weak [true, true, true, true] ?_
    exact wl_X11_tried_29 N N h
  · have h := (if_pos c6).symm.trans h
    refine V.iconst dX11_tried_13 ki_m1 ?_
    obtain rfl := Option.some.inj h
    exact V.ireturn dX11_tried_14
def f_X11_tried (N : Nat) (A : LH) (v0 : Option Nat) (v1 : Int32) : Option (Int32 × LH) := if isO A v0 11 = true then b_X11_tried N A v0 v1 else none
theorem w_X11_tried {g : GG} (N : Nat) {A : LH} {v0 : Option Nat} {v1 : Int32} {p : Int32 × LH} (h : f_X11_tried N A v0 v1 = some p) : Ct g m_X11_tried 6 [LR v0, LI v1] A (some (LI p.1)) p.2 := by
  unfold f_X11_tried at h
  obtain ⟨ho, h⟩ := ifN h
  exact ⟨wb_X11_tried N h, rfl⟩
theorem oo_X11_tried {N : Nat} {A : LH} {v0 : Option Nat} {v1 : Int32} {p : Int32 × LH} (h : f_X11_tried N A v0 v1 = some p) : isO A v0 11 = true := by unfold f_X11_tried at h; exact (ifN h).1
def b_X11_decides_31 (N : Nat) (k31 : LH → Option Nat → Int32 → Int32 → Int32 → Int32 → Option (Int32 × LH)) (A : LH) (v0 : Option Nat) (v1 : Int32) (v2 : Int32) (v3 : Int32) (v4 : Int32) : Option (Int32 × LH) :=
  (gR A v0 11 10).bind fun x11 => (aI A x11 0 (0 : Int32)).bind fun x13 => if x13 ≤ v4 then some (v3, A) else (gR A v0 11 11).bind fun x16 => (aI A x16 0 ((4 : Int32) * v4)).bind fun x18 => (gR A v0 11 11).bind fun x20 => (aI A x20 0 (((4 : Int32) * v4) + (1 : Int32))).bind fun x22 => (gR A v0 11 11).bind fun x24 => (aI A x24 0 (((4 : Int32) * v4) + (2 : Int32))).bind fun x26 => (gR A v0 11 11).bind fun x28 => (aI A x28 0 (((4 : Int32) * v4) + (3 : Int32))).bind fun x30 => (f_X11_decider N A v0 v1 x18 x22 x26 x30).bind fun p32 => if p32.1 = v2 then k31 p32.2 v0 v1 v2 (v3 + (1 : Int32)) (v4 + (1 : Int32)) else k31 p32.2 v0 v1 v2 (v3 + (0 : Int32)) (v4 + (1 : Int32))
set_option maxRecDepth 4000 in
theorem wb_X11_decides_31 {g : GG} {n0 z0 : Nat} (N : Nat) {k31 : LH → Option Nat → Int32 → Int32 → Int32 → Int32 → Option (Int32 × LH)} {A : LH} {v0 : Option Nat} {v1 : Int32} {v2 : Int32} {v3 : Int32} {v4 : Int32} {p : Int32 × LH} (hk31 : ∀ {A : LH} {v0 : Option Nat} {v1 : Int32} {v2 : Int32} {v3 : Int32} {v4 : Int32} {p : Int32 × LH}, k31 A v0 v1 v2 v3 v4 = some p → V g m_X11_decides 4 n0 z0 (some (LI p.1)) p.2 A 31 [some (LR v0), some (LI v1), some (LI v2), some (LI v3), some (LI v4)] []) (h : b_X11_decides_31 N k31 A v0 v1 v2 v3 v4 = some p) : V g m_X11_decides 4 n0 z0 (some (LI p.1)) p.2 A 31 [some (LR v0), some (LI v1), some (LI v2), some (LI v3), some (LI v4)] [] := by
  unfold b_X11_decides_31 at h
  refine V.iload dX11_decides_31 rfl ?_
  refine V.aload_n dX11_decides_33 rfl rfl ?_
  obtain ⟨x11, h12, h⟩ := bnd h
  refine V.getF (gR_F h12) CF11 (Nat.le_of_ble_eq_true rfl) fl_RX11_35 dX11_decides_34 ?_
  refine V.iconst dX11_decides_37 ki_0 ?_
  obtain ⟨x13, h14, h⟩ := bnd h
  refine V.iald h14 dX11_decides_38 ?_
  refine V.icmp_ge (tgt := 107) dX11_decides_39 (by decide) (fun c15 => ?_) (fun c15 => ?_)
  · have h := (if_pos c15).symm.trans h
    refine V.iload_n dX11_decides_107 rfl rfl ?_
    obtain rfl := Option.some.inj h
    exact V.ireturn dX11_decides_108
  · have h := (if_neg c15).symm.trans h
    refine V.iload_n dX11_decides_42 rfl rfl ?_
    refine V.aload_n dX11_decides_43 rfl rfl ?_
    refine V.iload_n dX11_decides_44 rfl rfl ?_
    refine V.aload_n dX11_decides_45 rfl rfl ?_
    obtain ⟨x16, h17, h⟩ := bnd h
    refine V.getF (gR_F h17) CF11 (Nat.le_of_ble_eq_true rfl) fl_RX11_38 dX11_decides_46 ?_
    refine V.iconst dX11_decides_49 ki_4 ?_
    refine V.iload dX11_decides_50 rfl ?_
    refine V.imul dX11_decides_52 ?_
    obtain ⟨x18, h19, h⟩ := bnd h
    refine V.iald h19 dX11_decides_53 ?_
    refine V.aload_n dX11_decides_54 rfl rfl ?_
    obtain ⟨x20, h21, h⟩ := bnd h
    refine V.getF (gR_F h21) CF11 (Nat.le_of_ble_eq_true rfl) fl_RX11_38 dX11_decides_55 ?_
    refine V.iconst dX11_decides_58 ki_4 ?_
    refine V.iload dX11_decides_59 rfl ?_
    refine V.imul dX11_decides_61 ?_
    refine V.iconst dX11_decides_62 ki_1 ?_
    refine V.iadd dX11_decides_63 ?_
    obtain ⟨x22, h23, h⟩ := bnd h
    refine V.iald h23 dX11_decides_64 ?_
    refine V.aload_n dX11_decides_65 rfl rfl ?_
    obtain ⟨x24, h25, h⟩ := bnd h
    refine V.getF (gR_F h25) CF11 (Nat.le_of_ble_eq_true rfl) fl_RX11_38 dX11_decides_66 ?_
    refine V.iconst dX11_decides_69 ki_4 ?_
    refine V.iload dX11_decides_70 rfl ?_
    refine V.imul dX11_decides_72 ?_
    refine V.iconst dX11_decides_73 ki_2 ?_
    refine V.iadd dX11_decides_74 ?_
    obtain ⟨x26, h27, h⟩ := bnd h
    refine V.iald h27 dX11_decides_75 ?_
    refine V.aload_n dX11_decides_76 rfl rfl ?_
    obtain ⟨x28, h29, h⟩ := bnd h
    refine V.getF (gR_F h29) CF11 (Nat.le_of_ble_eq_true rfl) fl_RX11_38 dX11_decides_77 ?_
    refine V.iconst dX11_decides_80 ki_4 ?_
    refine V.iload dX11_decides_81 rfl ?_
    refine V.imul dX11_decides_83 ?_
    refine V.iconst dX11_decides_84 ki_3 ?_
    refine V.iadd dX11_decides_85 ?_
    obtain ⟨x30, h31, h⟩ := bnd h
    refine V.iald h31 dX11_decides_86 ?_
    obtain ⟨p32, h33, h⟩ := bnd h
    have w34 := w_X11_decider (g := g) N h33
    refine V.callVi (args := [LI v1, LI x18, LI x22, LI x26, LI x30]) (st := [LI v3]) w34.1 (oo_X11_decider h33) mk_X11_decider w34.2 vc_11 ml_RX11_299 im_X11_decider se_X11_decider rfl (Nat.le_of_ble_eq_true rfl) (by decide) rfl (Nat.le_of_ble_eq_true rfl) dX11_decides_87 ?_
    refine V.iload_n dX11_decides_90 rfl rfl ?_
    refine V.icmp_ne (tgt := 98) dX11_decides_91 (by decide) (fun c35 => ?_) (fun c35 => ?_)
    · have h := (if_neg c35).symm.trans h
      refine V.iconst dX11_decides_98 ki_0 ?_
      refine V.iadd dX11_decides_99 ?_
      refine V.istore_n (ls' := [some (LR v0), some (LI v1), some (LI v2), some (LI (v3 + (0 : Int32))), some (LI v4)]) dX11_decides_100 rfl (by decide) rfl rfl ?_
      refine V.iinc (ls' := [some (LR v0), some (LI v1), some (LI v2), some (LI (v3 + (0 : Int32))), some (LI (v4 + (1 : Int32)))]) dX11_decides_101 rfl ki_1 (by decide) rfl rfl ?_
      refine V.goto (tgt := 31) dX11_decides_104 (by decide) ?_
      refine V.weak [true, true, true, true, true] ?_
      exact hk31 h
    · have h := (if_pos c35).symm.trans h
      refine V.iconst dX11_decides_94 ki_1 ?_
      refine V.goto (tgt := 99) dX11_decides_95 (by decide) ?_
      refine V.iadd dX11_decides_99 ?_
      refine V.istore_n (ls' := [some (LR v0), some (LI v1), some (LI v2), some (LI (v3 + (1 : Int32))), some (LI v4)]) dX11_decides_100 rfl (by decide) rfl rfl ?_
      refine V.iinc (ls' := [some (LR v0), some (LI v1), some (LI v2), some (LI (v3 + (1 : Int32))), some (LI (v4 + (1 : Int32)))]) dX11_decides_101 rfl ki_1 (by decide) rfl rfl ?_
      refine V.goto (tgt := 31) dX11_decides_104 (by decide) ?_
      refine V.weak [true, true, true, true, true] ?_
      exact hk31 h
def l_X11_decides_31 (N : Nat) : Nat → LH → Option Nat → Int32 → Int32 → Int32 → Int32 → Option (Int32 × LH)
  | 0, _, _, _, _, _, _ => none
  | n + 1, A, v0, v1, v2, v3, v4 => b_X11_decides_31 N (l_X11_decides_31 N n) A v0 v1 v2 v3 v4
theorem wl_X11_decides_31 {g : GG} {n0 z0 : Nat} (N : Nat) : ∀ (n : Nat) {A : LH} {v0 : Option Nat} {v1 : Int32} {v2 : Int32} {v3 : Int32} {v4 : Int32} {p : Int32 × LH}, l_X11_decides_31 N n A v0 v1 v2 v3 v4 = some p → V g m_X11_decides 4 n0 z0 (some (LI p.1)) p.2 A 31 [some (LR v0), some (LI v1), some (LI v2), some (LI v3), some (LI v4)] []
  | 0, _, _, _, _, _, _, _, h => nomatch h
  | n + 1, _, _, _, _, _, _, _, h => wb_X11_decides_31 N (wl_X11_decides_31 N n) h
def b_X11_decides (N : Nat) (A : LH) (v0 : Option Nat) (v1 : Int32) (v2 : Int32) : Option (Int32 × LH) :=
  (pF A v0 11 0 (LI (0 : Int32))).bind fun A1 => (f_X11_isLine A1 v0 v1 v2).bind fun p3 => if p3 = 0 then some ((-1 : Int32), A1) else (pF A1 v0 11 39 (LI (0 : Int32))).bind fun A7 => (pF A7 v0 11 40 (LI (0 : Int32))).bind fun A9 => l_X11_decides_31 N N A9 v0 v1 v2 (0 : Int32) (0 : Int32)
set_option maxRecDepth 4000 in
theorem wb_X11_decides {g : GG} {n0 z0 : Nat} (N : Nat) {A : LH} {v0 : Option Nat} {v1 : Int32} {v2 : Int32} {p : Int32 × LH} (h : b_X11_decides N A v0 v1 v2 = some p) : V g m_X11_decides 4 n0 z0 (some (LI p.1)) p.2 A 0 [some (LR v0), some (LI v1), some (LI v2)] [] := by
  unfold b_X11_decides at h
  refine V.aload_n dX11_decides_0 rfl rfl ?_
  refine V.iconst dX11_decides_1 ki_0 ?_
  obtain ⟨A1, h2, h⟩ := bnd h
  refine V.putF h2 rfl rfl rfl CF11 (Nat.le_of_ble_eq_true rfl) fl_RX11_94 dX11_decides_2 ?_
  refine V.aload_n dX11_decides_5 rfl rfl ?_
  refine V.iload_n dX11_decides_6 rfl rfl ?_
  refine V.iload_n dX11_decides_7 rfl rfl ?_
  obtain ⟨p3, h4, h⟩ := bnd h
  have w5 := w_X11_isLine (g := g) h4
  refine V.callVi (args := [LI v1, LI v2]) (st := []) w5.1 (oo_X11_isLine h4) mk_X11_isLine w5.2 vc_11 ml_RX11_313 im_X11_isLine se_X11_isLine rfl (Nat.le_of_ble_eq_true rfl) (by decide) rfl (Nat.le_of_ble_eq_true rfl) dX11_decides_8 ?_
  refine V.if_ne (tgt := 16) dX11_decides_11 (by decide) (fun c6 => ?_) (fun c6 => ?_)
  · have h := (if_neg c6).symm.trans h
    refine V.aload_n dX11_decides_16 rfl rfl ?_
    refine V.iconst dX11_decides_17 ki_0 ?_
    obtain ⟨A7, h8, h⟩ := bnd h
    refine V.putF h8 rfl rfl rfl CF11 (Nat.le_of_ble_eq_true rfl) fl_RX11_288 dX11_decides_18 ?_
    refine V.aload_n dX11_decides_21 rfl rfl ?_
    refine V.iconst dX11_decides_22 ki_0 ?_
    obtain ⟨A9, h10, h⟩ := bnd h
    refine V.putF h10 rfl rfl rfl CF11 (Nat.le_of_ble_eq_true rfl) fl_RX11_285 dX11_decides_23 ?_
    refine V.iconst dX11_decides_26 ki_0 ?_
    refine V.istore_n (ls' := [some (LR v0), some (LI v1), some (LI v2), some (LI (0 : Int32))]) dX11_decides_27 rfl (by decide) rfl rfl ?_
    refine V.iconst dX11_decides_28 ki_0 ?_
    refine V.istore (ls' := [some (LR v0), some (LI v1), some (LI v2), some (LI (0 : Int32)), some (LI (0 : Int32))]) dX11_decides_29 (by decide) rfl rfl ?_
    refine V.weak [true, true, true, true, true] ?_
    exact wl_X11_decides_31 N N h
  · have h := (if_pos c6).symm.trans h
    refine V.iconst dX11_decides_14 ki_m1 ?_
    obtain rfl := Option.some.inj h
    exact V.ireturn dX11_decides_15
def f_X11_decides (N : Nat) (A : LH) (v0 : Option Nat) (v1 : Int32) (v2 : Int32) : Option (Int32 × LH) := if isO A v0 11 = true then b_X11_decides N A v0 v1 v2 else none
theorem w_X11_decides {g : GG} (N : Nat) {A : LH} {v0 : Option Nat} {v1 : Int32} {v2 : Int32} {p : Int32 × LH} (h : f_X11_decides N A v0 v1 v2 = some p) : Ct g m_X11_decides 4 [LR v0, LI v1, LI v2] A (some (LI p.1)) p.2 := by
  unfold f_X11_decides at h
  obtain ⟨ho, h⟩ := ifN h
  exact ⟨wb_X11_decides N h, rfl⟩
theorem oo_X11_decides {N : Nat} {A : LH} {v0 : Option Nat} {v1 : Int32} {v2 : Int32} {p : Int32 × LH} (h : f_X11_decides N A v0 v1 v2 = some p) : isO A v0 11 = true := by unfold f_X11_decides at h; exact (ifN h).1
def b_X11_lost_43 (N : Nat) (k43 : LH → Option Nat → Int32 → Int32 → Int32 → Int32 → Option (Int32 × LH)) (A : LH) (v0 : Option Nat) (v1 : Int32) (v2 : Int32) (v4 : Int32) (v5 : Int32) : Option (Int32 × LH) :=
  (gR A v0 11 10).bind fun x16 => (aI A x16 0 (0 : Int32)).bind fun x18 => if x18 ≤ v5 then some ((-1 : Int32), A) else (f_X11_isAskLet N A v0 v1 v5).bind fun p21 => if p21.1 = 0 then k43 p21.2 v0 v1 v2 v4 (v5 + (1 : Int32)) else (f_X11_isAskLet N p21.2 v0 v2 v5).bind fun p25 => if p25.1 = 0 then if v4 = 0 then some (v5, p25.2) else k43 p25.2 v0 v1 v2 (v4 + (-1 : Int32)) (v5 + (1 : Int32)) else k43 p25.2 v0 v1 v2 v4 (v5 + (1 : Int32))
set_option maxRecDepth 4000 in
theorem wb_X11_lost_43 {g : GG} {n0 z0 : Nat} (N : Nat) {k43 : LH → Option Nat → Int32 → Int32 → Int32 → Int32 → Option (Int32 × LH)} {A : LH} {v0 : Option Nat} {v1 : Int32} {v2 : Int32} {v4 : Int32} {v5 : Int32} {p : Int32 × LH} (hk43 : ∀ {A : LH} {v0 : Option Nat} {v1 : Int32} {v2 : Int32} {v4 : Int32} {v5 : Int32} {p : Int32 × LH}, k43 A v0 v1 v2 v4 v5 = some p → V g m_X11_lost 6 n0 z0 (some (LI p.1)) p.2 A 43 [some (LR v0), some (LI v1), some (LI v2), none, some (LI v4), some (LI v5)] []) (h : b_X11_lost_43 N k43 A v0 v1 v2 v4 v5 = some p) : V g m_X11_lost 6 n0 z0 (some (LI p.1)) p.2 A 43 [some (LR v0), some (LI v1), some (LI v2), none, some (LI v4), some (LI v5)] [] := by
  unfold b_X11_lost_43 at h
  refine V.iload dX11_lost_43 rfl ?_
  refine V.aload_n dX11_lost_45 rfl rfl ?_
  obtain ⟨x16, h17, h⟩ := bnd h
  refine V.getF (gR_F h17) CF11 (Nat.le_of_ble_eq_true rfl) fl_RX11_35 dX11_lost_46 ?_
  refine V.iconst dX11_lost_49 ki_0 ?_
  obtain ⟨x18, h19, h⟩ := bnd h
  refine V.iald h19 dX11_lost_50 ?_
  refine V.icmp_ge (tgt := 91) dX11_lost_51 (by decide) (fun c20 => ?_) (fun c20 => ?_)
  · have h := (if_pos c20).symm.trans h
    refine V.iconst dX11_lost_91 ki_m1 ?_
    obtain rfl := Option.some.inj h
    exact V.ireturn dX11_lost_92
  · have h := (if_neg c20).symm.trans h
    refine V.aload_n dX11_lost_54 rfl rfl ?_
    refine V.iload_n dX11_lost_55 rfl rfl ?_
    refine V.iload dX11_lost_56 rfl ?_
    obtain ⟨p21, h22, h⟩ := bnd h
    have w23 := w_X11_isAskLet (g := g) N h22
    refine V.callVi (args := [LI v1, LI v5]) (st := []) w23.1 (oo_X11_isAskLet h22) mk_X11_isAskLet w23.2 vc_11 ml_RX11_310 im_X11_isAskLet se_X11_isAskLet rfl (Nat.le_of_ble_eq_true rfl) (by decide) rfl (Nat.le_of_ble_eq_true rfl) dX11_lost_58 ?_
    refine V.if_eq (tgt := 85) dX11_lost_61 (by decide) (fun c24 => ?_) (fun c24 => ?_)
    · have h := (if_pos c24).symm.trans h
      refine V.iinc (ls' := [some (LR v0), some (LI v1), some (LI v2), none, some (LI v4), some (LI (v5 + (1 : Int32)))]) dX11_lost_85 rfl ki_1 (by decide) rfl rfl ?_
      refine V.goto (tgt := 43) dX11_lost_88 (by decide) ?_
      refine V.weak [true, true, true, false, true, true] ?_
      exact hk43 h
    · have h := (if_neg c24).symm.trans h
      refine V.aload_n dX11_lost_64 rfl rfl ?_
      refine V.iload_n dX11_lost_65 rfl rfl ?_
      refine V.iload dX11_lost_66 rfl ?_
      obtain ⟨p25, h26, h⟩ := bnd h
      have w27 := w_X11_isAskLet (g := g) N h26
      refine V.callVi (args := [LI v2, LI v5]) (st := []) w27.1 (oo_X11_isAskLet h26) mk_X11_isAskLet w27.2 vc_11 ml_RX11_310 im_X11_isAskLet se_X11_isAskLet rfl (Nat.le_of_ble_eq_true rfl) (by decide) rfl (Nat.le_of_ble_eq_true rfl) dX11_lost_68 ?_
      refine V.if_ne (tgt := 85) dX11_lost_71 (by decide) (fun c28 => ?_) (fun c28 => ?_)
      · have h := (if_neg c28).symm.trans h
        refine V.iinc (ls' := [some (LR v0), some (LI v1), some (LI v2), none, some (LI v4), some (LI (v5 + (1 : Int32)))]) dX11_lost_85 rfl ki_1 (by decide) rfl rfl ?_
        refine V.goto (tgt := 43) dX11_lost_88 (by decide) ?_
        refine V.weak [true, true, true, false, true, true] ?_
        exact hk43 h
      · have h := (if_pos c28).symm.trans h
        refine V.iload dX11_lost_74 rfl ?_
        refine V.if_ne (tgt := 82) dX11_lost_76 (by decide) (fun c29 => ?_) (fun c29 => ?_)
        · have h := (if_neg c29).symm.trans h
          refine V.iinc (ls' := [some (LR v0), some (LI v1), some (LI v2), none, some (LI (v4 + (-1 : Int32))), some (LI v5)]) dX11_lost_82 rfl ki_m1 (by decide) rfl rfl ?_
          refine V.iinc (ls' := [some (LR v0), some (LI v1), some (LI v2), none, some (LI (v4 + (-1 : Int32))), some (LI (v5 + (1 : Int32)))]) dX11_lost_85 rfl ki_1 (by decide) rfl rfl ?_
          refine V.goto (tgt := 43) dX11_lost_88 (by decide) ?_
          refine V.weak [true, true, true, false, true, true] ?_
          exact hk43 h
        · have h := (if_pos c29).symm.trans h
          refine V.iload dX11_lost_79 rfl ?_
          obtain rfl := Option.some.inj h
          exact V.ireturn dX11_lost_81
def l_X11_lost_43 (N : Nat) : Nat → LH → Option Nat → Int32 → Int32 → Int32 → Int32 → Option (Int32 × LH)
  | 0, _, _, _, _, _, _ => none
  | n + 1, A, v0, v1, v2, v4, v5 => b_X11_lost_43 N (l_X11_lost_43 N n) A v0 v1 v2 v4 v5
theorem wl_X11_lost_43 {g : GG} {n0 z0 : Nat} (N : Nat) : ∀ (n : Nat) {A : LH} {v0 : Option Nat} {v1 : Int32} {v2 : Int32} {v4 : Int32} {v5 : Int32} {p : Int32 × LH}, l_X11_lost_43 N n A v0 v1 v2 v4 v5 = some p → V g m_X11_lost 6 n0 z0 (some (LI p.1)) p.2 A 43 [some (LR v0), some (LI v1), some (LI v2), none, some (LI v4), some (LI v5)] []
  | 0, _, _, _, _, _, _, _, h => nomatch h
  | n + 1, _, _, _, _, _, _, _, h => wb_X11_lost_43 N (wl_X11_lost_43 N n) h
def b_X11_lost (N : Nat) (A : LH) (v0 : Option Nat) (v1 : Int32) (v2 : Int32) (v3 : Int32) : Option (Int32 × LH) :=
  (pF A v0 11 0 (LI (0 : Int32))).bind fun A1 => (f_X11_isSlot A1 v0 v1).bind fun p3 => if p3 = 0 then some ((-1 : Int32), A1) else (f_X11_isSlot A1 v0 v2).bind fun p7 => if p7 = 0 then some ((-1 : Int32), A1) else if 0 ≤ v3 then (pF A1 v0 11 39 (LI (0 : Int32))).bind fun A12 => (pF A12 v0 11 40 (LI (0 : Int32))).bind fun A14 => l_X11_lost_43 N N A14 v0 v1 v2 v3 (0 : Int32) else some ((-1 : Int32), A1)
set_option maxRecDepth 4000 in
theorem wb_X11_lost {g : GG} {n0 z0 : Nat} (N : Nat) {A : LH} {v0 : Option Nat} {v1 : Int32} {v2 : Int32} {v3 : Int32} {p : Int32 × LH} (h : b_X11_lost N A v0 v1 v2 v3 = some p) : V g m_X11_lost 6 n0 z0 (some (LI p.1)) p.2 A 0 [some (LR v0), some (LI v1), some (LI v2), some (LI v3)] [] := by
  unfold b_X11_lost at h
  refine V.aload_n dX11_lost_0 rfl rfl ?_
  refine V.iconst dX11_lost_1 ki_0 ?_
  obtain ⟨A1, h2, h⟩ := bnd h
  refine V.putF h2 rfl rfl rfl CF11 (Nat.le_of_ble_eq_true rfl) fl_RX11_94 dX11_lost_2 ?_
  refine V.aload_n dX11_lost_5 rfl rfl ?_
  refine V.iload_n dX11_lost_6 rfl rfl ?_
  obtain ⟨p3, h4, h⟩ := bnd h
  have w5 := w_X11_isSlot (g := g) h4
  refine V.callVi (args := [LI v1]) (st := []) w5.1 (oo_X11_isSlot h4) mk_X11_isSlot w5.2 vc_11 ml_RX11_259 im_X11_isSlot se_X11_isSlot rfl (Nat.le_of_ble_eq_true rfl) (by decide) rfl (Nat.le_of_ble_eq_true rfl) dX11_lost_7 ?_
  refine V.if_eq (tgt := 25) dX11_lost_10 (by decide) (fun c6 => ?_) (fun c6 => ?_)
  · have h := (if_pos c6).symm.trans h
    refine V.iconst dX11_lost_25 ki_m1 ?_
    obtain rfl := Option.some.inj h
    exact V.ireturn dX11_lost_26
  · have h := (if_neg c6).symm.trans h
    refine V.aload_n dX11_lost_13 rfl rfl ?_
    refine V.iload_n dX11_lost_14 rfl rfl ?_
    obtain ⟨p7, h8, h⟩ := bnd h
    have w9 := w_X11_isSlot (g := g) h8
    refine V.callVi (args := [LI v2]) (st := []) w9.1 (oo_X11_isSlot h8) mk_X11_isSlot w9.2 vc_11 ml_RX11_259 im_X11_isSlot se_X11_isSlot rfl (Nat.le_of_ble_eq_true rfl) (by decide) rfl (Nat.le_of_ble_eq_true rfl) dX11_lost_15 ?_
    refine V.if_eq (tgt := 25) dX11_lost_18 (by decide) (fun c10 => ?_) (fun c10 => ?_)
    · have h := (if_pos c10).symm.trans h
      refine V.iconst dX11_lost_25 ki_m1 ?_
      obtain rfl := Option.some.inj h
      exact V.ireturn dX11_lost_26
    · have h := (if_neg c10).symm.trans h
      refine V.iload_n dX11_lost_21 rfl rfl ?_
      refine V.if_ge (tgt := 27) dX11_lost_22 (by decide) (fun c11 => ?_) (fun c11 => ?_)
      · have h := (if_pos c11).symm.trans h
        refine V.aload_n dX11_lost_27 rfl rfl ?_
        refine V.iconst dX11_lost_28 ki_0 ?_
        obtain ⟨A12, h13, h⟩ := bnd h
        refine V.putF h13 rfl rfl rfl CF11 (Nat.le_of_ble_eq_true rfl) fl_RX11_288 dX11_lost_29 ?_
        refine V.aload_n dX11_lost_32 rfl rfl ?_
        refine V.iconst dX11_lost_33 ki_0 ?_
        obtain ⟨A14, h15, h⟩ := bnd h
        refine V.putF h15 rfl rfl rfl CF11 (Nat.le_of_ble_eq_true rfl) fl_RX11_285 dX11_lost_34 ?_
        refine V.iload_n dX11_lost_37 rfl rfl ?_
        refine V.istore (ls' := [some (LR v0), some (LI v1), some (LI v2), some (LI v3), some (LI v3)]) dX11_lost_38 (by decide) rfl rfl ?_
        refine V.iconst dX11_lost_40 ki_0 ?_
        refine V.istore (ls' := [some (LR v0), some (LI v1), some (LI v2), some (LI v3), some (LI v3), some (LI (0 : Int32))]) dX11_lost_41 (by decide) rfl rfl ?_
        refine V.weak [true, true, true, false, true, true] ?_
        exact wl_X11_lost_43 N N h
      · have h := (if_neg c11).symm.trans h
        refine V.iconst dX11_lost_25 ki_m1 ?_
        obtain rfl := Option.some.inj h
        exact V.ireturn dX11_lost_26
def f_X11_lost (N : Nat) (A : LH) (v0 : Option Nat) (v1 : Int32) (v2 : Int32) (v3 : Int32) : Option (Int32 × LH) := if isO A v0 11 = true then b_X11_lost N A v0 v1 v2 v3 else none
theorem w_X11_lost {g : GG} (N : Nat) {A : LH} {v0 : Option Nat} {v1 : Int32} {v2 : Int32} {v3 : Int32} {p : Int32 × LH} (h : f_X11_lost N A v0 v1 v2 v3 = some p) : Ct g m_X11_lost 6 [LR v0, LI v1, LI v2, LI v3] A (some (LI p.1)) p.2 := by
  unfold f_X11_lost at h
  obtain ⟨ho, h⟩ := ifN h
  exact ⟨wb_X11_lost N h, rfl⟩
theorem oo_X11_lost {N : Nat} {A : LH} {v0 : Option Nat} {v1 : Int32} {v2 : Int32} {v3 : Int32} {p : Int32 × LH} (h : f_X11_lost N A v0 v1 v2 v3 = some p) : isO A v0 11 = true := by unfold f_X11_lost at h; exact (ifN h).1
def b_X11_all (A : LH) (v0 : Option Nat) : Option (Int32) :=
  (gR A v0 11 3).bind fun x1 => (aI A x1 0 (0 : Int32)).bind fun x3 => (gR A v0 11 6).bind fun x5 => (aI A x5 0 (0 : Int32)).bind fun x7 => some (((x3 * (4 : Int32)) * x7) * (24 : Int32))
set_option maxRecDepth 4000 in
theorem wb_X11_all {g : GG} {n0 z0 : Nat} {A : LH} {v0 : Option Nat} {p : Int32} (h : b_X11_all A v0 = some p) : V g m_X11_all 0 n0 z0 (some (LI p)) A A 0 [some (LR v0)] [] := by
  unfold b_X11_all at h
  refine V.aload_n dX11_all_0 rfl rfl ?_
  obtain ⟨x1, h2, h⟩ := bnd h
  refine V.getF (gR_F h2) CF11 (Nat.le_of_ble_eq_true rfl) fl_RX11_13 dX11_all_1 ?_
  refine V.iconst dX11_all_4 ki_0 ?_
  obtain ⟨x3, h4, h⟩ := bnd h
  refine V.iald h4 dX11_all_5 ?_
  refine V.iconst dX11_all_6 ki_4 ?_
  refine V.imul dX11_all_7 ?_
  refine V.aload_n dX11_all_8 rfl rfl ?_
  obtain ⟨x5, h6, h⟩ := bnd h
  refine V.getF (gR_F h6) CF11 (Nat.le_of_ble_eq_true rfl) fl_RX11_23 dX11_all_9 ?_
  refine V.iconst dX11_all_12 ki_0 ?_
  obtain ⟨x7, h8, h⟩ := bnd h
  refine V.iald h8 dX11_all_13 ?_
  refine V.imul dX11_all_14 ?_
  refine V.bipush dX11_all_15 kb_24 ?_
  refine V.imul dX11_all_17 ?_
  obtain rfl := Option.some.inj h
  exact V.ireturn dX11_all_18
def f_X11_all (A : LH) (v0 : Option Nat) : Option (Int32) := if isO A v0 11 = true then b_X11_all A v0 else none
theorem w_X11_all {g : GG} {A : LH} {v0 : Option Nat} {p : Int32} (h : f_X11_all A v0 = some p) : Ct g m_X11_all 0 [LR v0] A (some (LI p)) A := by
  unfold f_X11_all at h
  obtain ⟨ho, h⟩ := ifN h
  exact ⟨wb_X11_all h, rfl⟩
theorem oo_X11_all {A : LH} {v0 : Option Nat} {p : Int32} (h : f_X11_all A v0 = some p) : isO A v0 11 = true := by unfold f_X11_all at h; exact (ifN h).1
def b_X11_partOf (A : LH) (v0 : Option Nat) (v1 : Int32) (v2 : Int32) : Option (Int32) :=
  if v2 = 0 then (gR A v0 11 6).bind fun x2 => (aI A x2 0 (0 : Int32)).bind fun x4 => if ((96 : Int32) * x4) = 0 then none else some (v1 / ((96 : Int32) * x4)) else if v2 = 1 then (gR A v0 11 6).bind fun x8 => (aI A x8 0 (0 : Int32)).bind fun x10 => if ((24 : Int32) * x10) = 0 then none else if (4 : Int32) = 0 then none else some ((v1 / ((24 : Int32) * x10)) - (v1 / ((24 : Int32) * x10)) / (4 : Int32) * (4 : Int32)) else if v2 = 2 then if (24 : Int32) = 0 then none else (gR A v0 11 6).bind fun x16 => (aI A x16 0 (0 : Int32)).bind fun x18 => if x18 = 0 then none else some ((v1 / (24 : Int32)) - (v1 / (24 : Int32)) / x18 * x18) else if (24 : Int32) = 0 then none else some (v1 - v1 / (24 : Int32) * (24 : Int32))
set_option maxRecDepth 4000 in
theorem wb_X11_partOf {g : GG} {n0 z0 : Nat} {A : LH} {v0 : Option Nat} {v1 : Int32} {v2 : Int32} {p : Int32} (h : b_X11_partOf A v0 v1 v2 = some p) : V g m_X11_partOf 0 n0 z0 (some (LI p)) A A 0 [some (LR v0), some (LI v1), some (LI v2)] [] := by
  unfold b_X11_partOf at h
  refine V.iload_n dX11_partOf_0 rfl rfl ?_
  by_cases c1 : v2 = 0
  · have h := (if_pos c1).symm.trans h
    refine V.tableIn (tgt := 28) (off := 27) dX11_partOf_1 (by rw [c1]; decide) (by rw [c1]; decide) (by rw [c1]; decide) (by decide) ?_
    refine V.iload_n dX11_partOf_28 rfl rfl ?_
    refine V.bipush dX11_partOf_29 kb_96 ?_
    refine V.aload_n dX11_partOf_31 rfl rfl ?_
    obtain ⟨x2, h3, h⟩ := bnd h
    refine V.getF (gR_F h3) CF11 (Nat.le_of_ble_eq_true rfl) fl_RX11_23 dX11_partOf_32 ?_
    refine V.iconst dX11_partOf_35 ki_0 ?_
    obtain ⟨x4, h5, h⟩ := bnd h
    refine V.iald h5 dX11_partOf_36 ?_
    refine V.imul dX11_partOf_37 ?_
    obtain ⟨c6, h⟩ := ifM h
    refine V.idiv c6 dX11_partOf_38 ?_
    obtain rfl := Option.some.inj h
    exact V.ireturn dX11_partOf_39
  have h := (if_neg c1).symm.trans h
  by_cases c7 : v2 = 1
  · have h := (if_pos c7).symm.trans h
    refine V.tableIn (tgt := 40) (off := 39) dX11_partOf_1 (by rw [c7]; decide) (by rw [c7]; decide) (by rw [c7]; decide) (by decide) ?_
    refine V.iload_n dX11_partOf_40 rfl rfl ?_
    refine V.bipush dX11_partOf_41 kb_24 ?_
    refine V.aload_n dX11_partOf_43 rfl rfl ?_
    obtain ⟨x8, h9, h⟩ := bnd h
    refine V.getF (gR_F h9) CF11 (Nat.le_of_ble_eq_true rfl) fl_RX11_23 dX11_partOf_44 ?_
    refine V.iconst dX11_partOf_47 ki_0 ?_
    obtain ⟨x10, h11, h⟩ := bnd h
    refine V.iald h11 dX11_partOf_48 ?_
    refine V.imul dX11_partOf_49 ?_
    obtain ⟨c12, h⟩ := ifM h
    refine V.idiv c12 dX11_partOf_50 ?_
    refine V.iconst dX11_partOf_51 ki_4 ?_
    obtain ⟨c13, h⟩ := ifM h
    refine V.irem c13 dX11_partOf_52 ?_
    obtain rfl := Option.some.inj h
    exact V.ireturn dX11_partOf_53
  have h := (if_neg c7).symm.trans h
  by_cases c14 : v2 = 2
  · have h := (if_pos c14).symm.trans h
    refine V.tableIn (tgt := 54) (off := 53) dX11_partOf_1 (by rw [c14]; decide) (by rw [c14]; decide) (by rw [c14]; decide) (by decide) ?_
    refine V.iload_n dX11_partOf_54 rfl rfl ?_
    refine V.bipush dX11_partOf_55 kb_24 ?_
    obtain ⟨c15, h⟩ := ifM h
    refine V.idiv c15 dX11_partOf_57 ?_
    refine V.aload_n dX11_partOf_58 rfl rfl ?_
    obtain ⟨x16, h17, h⟩ := bnd h
    refine V.getF (gR_F h17) CF11 (Nat.le_of_ble_eq_true rfl) fl_RX11_23 dX11_partOf_59 ?_
    refine V.iconst dX11_partOf_62 ki_0 ?_
    obtain ⟨x18, h19, h⟩ := bnd h
    refine V.iald h19 dX11_partOf_63 ?_
    obtain ⟨c20, h⟩ := ifM h
    refine V.irem c20 dX11_partOf_64 ?_
    obtain rfl := Option.some.inj h
    exact V.ireturn dX11_partOf_65
  have h := (if_neg c14).symm.trans h
  refine V.tableOut (tgt := 66) dX11_partOf_1 (sw_out (n := 3) [0, 1, 2] (by decide) (List.forall_mem_cons.mpr ⟨c1, List.forall_mem_cons.mpr ⟨c7, List.forall_mem_cons.mpr ⟨c14, fun _ z => nomatch z⟩⟩⟩)) (by decide) ?_
  refine V.iload_n dX11_partOf_66 rfl rfl ?_
  refine V.bipush dX11_partOf_67 kb_24 ?_
  obtain ⟨c21, h⟩ := ifM h
  refine V.irem c21 dX11_partOf_69 ?_
  obtain rfl := Option.some.inj h
  exact V.ireturn dX11_partOf_70
def f_X11_partOf (A : LH) (v0 : Option Nat) (v1 : Int32) (v2 : Int32) : Option (Int32) := if isO A v0 11 = true then b_X11_partOf A v0 v1 v2 else none
theorem w_X11_partOf {g : GG} {A : LH} {v0 : Option Nat} {v1 : Int32} {v2 : Int32} {p : Int32} (h : f_X11_partOf A v0 v1 v2 = some p) : Ct g m_X11_partOf 0 [LR v0, LI v1, LI v2] A (some (LI p)) A := by
  unfold f_X11_partOf at h
  obtain ⟨ho, h⟩ := ifN h
  exact ⟨wb_X11_partOf h, rfl⟩
theorem oo_X11_partOf {A : LH} {v0 : Option Nat} {v1 : Int32} {v2 : Int32} {p : Int32} (h : f_X11_partOf A v0 v1 v2 = some p) : isO A v0 11 = true := by unfold f_X11_partOf at h; exact (ifN h).1
def b_X11_isAllLet (N : Nat) (A : LH) (v0 : Option Nat) (v1 : Int32) (v2 : Int32) : Option (Int32 × LH) :=
  (f_X11_partOf A v0 v2 (0 : Int32)).bind fun p1 => (f_X11_partOf A v0 v2 (1 : Int32)).bind fun p4 => (f_X11_partOf A v0 v2 (2 : Int32)).bind fun p7 => (f_X11_partOf A v0 v2 (3 : Int32)).bind fun p10 => (f_X11_isLet N A v0 v1 p1 p4 p7 p10).bind fun p13 => some (p13.1, p13.2)
set_option maxRecDepth 4000 in
theorem wb_X11_isAllLet {g : GG} {n0 z0 : Nat} (N : Nat) {A : LH} {v0 : Option Nat} {v1 : Int32} {v2 : Int32} {p : Int32 × LH} (h : b_X11_isAllLet N A v0 v1 v2 = some p) : V g m_X11_isAllLet 5 n0 z0 (some (LI p.1)) p.2 A 0 [some (LR v0), some (LI v1), some (LI v2)] [] := by
  unfold b_X11_isAllLet at h
  refine V.aload_n dX11_isAllLet_0 rfl rfl ?_
  refine V.iload_n dX11_isAllLet_1 rfl rfl ?_
  refine V.aload_n dX11_isAllLet_2 rfl rfl ?_
  refine V.iload_n dX11_isAllLet_3 rfl rfl ?_
  refine V.iconst dX11_isAllLet_4 ki_0 ?_
  obtain ⟨p1, h2, h⟩ := bnd h
  have w3 := w_X11_partOf (g := g) h2
  refine V.callVi (args := [LI v2, LI (0 : Int32)]) (st := [LI v1, LR v0]) w3.1 (oo_X11_partOf h2) mk_X11_partOf w3.2 vc_11 ml_RX11_316 im_X11_partOf se_X11_partOf rfl (Nat.le_of_ble_eq_true rfl) (by decide) rfl (Nat.le_of_ble_eq_true rfl) dX11_isAllLet_5 ?_
  refine V.aload_n dX11_isAllLet_8 rfl rfl ?_
  refine V.iload_n dX11_isAllLet_9 rfl rfl ?_
  refine V.iconst dX11_isAllLet_10 ki_1 ?_
  obtain ⟨p4, h5, h⟩ := bnd h
  have w6 := w_X11_partOf (g := g) h5
  refine V.callVi (args := [LI v2, LI (1 : Int32)]) (st := [LI p1, LI v1, LR v0]) w6.1 (oo_X11_partOf h5) mk_X11_partOf w6.2 vc_11 ml_RX11_316 im_X11_partOf se_X11_partOf rfl (Nat.le_of_ble_eq_true rfl) (by decide) rfl (Nat.le_of_ble_eq_true rfl) dX11_isAllLet_11 ?_
  refine V.aload_n dX11_isAllLet_14 rfl rfl ?_
  refine V.iload_n dX11_isAllLet_15 rfl rfl ?_
  refine V.iconst dX11_isAllLet_16 ki_2 ?_
  obtain ⟨p7, h8, h⟩ := bnd h
  have w9 := w_X11_partOf (g := g) h8
  refine V.callVi (args := [LI v2, LI (2 : Int32)]) (st := [LI p4, LI p1, LI v1, LR v0]) w9.1 (oo_X11_partOf h8) mk_X11_partOf w9.2 vc_11 ml_RX11_316 im_X11_partOf se_X11_partOf rfl (Nat.le_of_ble_eq_true rfl) (by decide) rfl (Nat.le_of_ble_eq_true rfl) dX11_isAllLet_17 ?_
  refine V.aload_n dX11_isAllLet_20 rfl rfl ?_
  refine V.iload_n dX11_isAllLet_21 rfl rfl ?_
  refine V.iconst dX11_isAllLet_22 ki_3 ?_
  obtain ⟨p10, h11, h⟩ := bnd h
  have w12 := w_X11_partOf (g := g) h11
  refine V.callVi (args := [LI v2, LI (3 : Int32)]) (st := [LI p7, LI p4, LI p1, LI v1, LR v0]) w12.1 (oo_X11_partOf h11) mk_X11_partOf w12.2 vc_11 ml_RX11_316 im_X11_partOf se_X11_partOf rfl (Nat.le_of_ble_eq_true rfl) (by decide) rfl (Nat.le_of_ble_eq_true rfl) dX11_isAllLet_23 ?_
  obtain ⟨p13, h14, h⟩ := bnd h
  have w15 := w_X11_isLet (g := g) N h14
  refine V.callVi (args := [LI v1, LI p1, LI p4, LI p7, LI p10]) (st := []) w15.1 (oo_X11_isLet h14) mk_X11_isLet w15.2 vc_11 ml_RX11_307 im_X11_isLet se_X11_isLet rfl (Nat.le_of_ble_eq_true rfl) (by decide) rfl (Nat.le_of_ble_eq_true rfl) dX11_isAllLet_26 ?_
  obtain rfl := Option.some.inj h
  exact V.ireturn dX11_isAllLet_29
def f_X11_isAllLet (N : Nat) (A : LH) (v0 : Option Nat) (v1 : Int32) (v2 : Int32) : Option (Int32 × LH) := if isO A v0 11 = true then zc (b_X11_isAllLet N A v0 v1 v2) else none
theorem w_X11_isAllLet {g : GG} (N : Nat) {A : LH} {v0 : Option Nat} {v1 : Int32} {v2 : Int32} {p : Int32 × LH} (h : f_X11_isAllLet N A v0 v1 v2 = some p) : Ct g m_X11_isAllLet 5 [LR v0, LI v1, LI v2] A (some (LI p.1)) p.2 := by
  unfold f_X11_isAllLet at h
  obtain ⟨ho, h⟩ := ifN h
  obtain ⟨h, hz⟩ := zc_sp h
  exact ⟨wb_X11_isAllLet N h, (RTz hz)⟩
theorem oo_X11_isAllLet {N : Nat} {A : LH} {v0 : Option Nat} {v1 : Int32} {v2 : Int32} {p : Int32 × LH} (h : f_X11_isAllLet N A v0 v1 v2 = some p) : isO A v0 11 = true := by unfold f_X11_isAllLet at h; exact (ifN h).1
def b_X11_idle_28 (N : Nat) (k28 : LH → Option Nat → Int32 → Int32 → Int32 → Option (Int32 × LH)) (A : LH) (v0 : Option Nat) (v1 : Int32) (v2 : Int32) (v3 : Int32) : Option (Int32 × LH) :=
  (f_X11_all A v0).bind fun p11 => if p11 ≤ v3 then some ((1 : Int32), A) else (f_X11_partOf A v0 v3 (0 : Int32)).bind fun p15 => (f_X11_partOf A v0 v3 (1 : Int32)).bind fun p18 => (f_X11_partOf A v0 v3 (2 : Int32)).bind fun p21 => (f_X11_partOf A v0 v3 (3 : Int32)).bind fun p24 => (f_X11_decider N A v0 v1 p15 p18 p21 p24).bind fun p27 => if p27.1 = v2 then some ((0 : Int32), p27.2) else k28 p27.2 v0 v1 v2 (v3 + (1 : Int32))
set_option maxRecDepth 4000 in
theorem wb_X11_idle_28 {g : GG} {n0 z0 : Nat} (N : Nat) {k28 : LH → Option Nat → Int32 → Int32 → Int32 → Option (Int32 × LH)} {A : LH} {v0 : Option Nat} {v1 : Int32} {v2 : Int32} {v3 : Int32} {p : Int32 × LH} (hk28 : ∀ {A : LH} {v0 : Option Nat} {v1 : Int32} {v2 : Int32} {v3 : Int32} {p : Int32 × LH}, k28 A v0 v1 v2 v3 = some p → V g m_X11_idle 4 n0 z0 (some (LI p.1)) p.2 A 28 [some (LR v0), some (LI v1), some (LI v2), some (LI v3)] []) (h : b_X11_idle_28 N k28 A v0 v1 v2 v3 = some p) : V g m_X11_idle 4 n0 z0 (some (LI p.1)) p.2 A 28 [some (LR v0), some (LI v1), some (LI v2), some (LI v3)] [] := by
  unfold b_X11_idle_28 at h
  refine V.iload_n dX11_idle_28 rfl rfl ?_
  refine V.aload_n dX11_idle_29 rfl rfl ?_
  obtain ⟨p11, h12, h⟩ := bnd h
  have w13 := w_X11_all (g := g) h12
  refine V.callVi (args := []) (st := [LI v3]) w13.1 (oo_X11_all h12) mk_X11_all w13.2 vc_11 ml_RX11_320 im_X11_all se_X11_all rfl (Nat.le_of_ble_eq_true rfl) (by decide) rfl (Nat.le_of_ble_eq_true rfl) dX11_idle_30 ?_
  refine V.icmp_ge (tgt := 77) dX11_idle_33 (by decide) (fun c14 => ?_) (fun c14 => ?_)
  · have h := (if_pos c14).symm.trans h
    refine V.iconst dX11_idle_77 ki_1 ?_
    obtain rfl := Option.some.inj h
    exact V.ireturn dX11_idle_78
  · have h := (if_neg c14).symm.trans h
    refine V.aload_n dX11_idle_36 rfl rfl ?_
    refine V.iload_n dX11_idle_37 rfl rfl ?_
    refine V.aload_n dX11_idle_38 rfl rfl ?_
    refine V.iload_n dX11_idle_39 rfl rfl ?_
    refine V.iconst dX11_idle_40 ki_0 ?_
    obtain ⟨p15, h16, h⟩ := bnd h
    have w17 := w_X11_partOf (g := g) h16
    refine V.callVi (args := [LI v3, LI (0 : Int32)]) (st := [LI v1, LR v0]) w17.1 (oo_X11_partOf h16) mk_X11_partOf w17.2 vc_11 ml_RX11_316 im_X11_partOf se_X11_partOf rfl (Nat.le_of_ble_eq_true rfl) (by decide) rfl (Nat.le_of_ble_eq_true rfl) dX11_idle_41 ?_
    refine V.aload_n dX11_idle_44 rfl rfl ?_
    refine V.iload_n dX11_idle_45 rfl rfl ?_
    refine V.iconst dX11_idle_46 ki_1 ?_
    obtain ⟨p18, h19, h⟩ := bnd h
    have w20 := w_X11_partOf (g := g) h19
    refine V.callVi (args := [LI v3, LI (1 : Int32)]) (st := [LI p15, LI v1, LR v0]) w20.1 (oo_X11_partOf h19) mk_X11_partOf w20.2 vc_11 ml_RX11_316 im_X11_partOf se_X11_partOf rfl (Nat.le_of_ble_eq_true rfl) (by decide) rfl (Nat.le_of_ble_eq_true rfl) dX11_idle_47 ?_
    refine V.aload_n dX11_idle_50 rfl rfl ?_
    refine V.iload_n dX11_idle_51 rfl rfl ?_
    refine V.iconst dX11_idle_52 ki_2 ?_
    obtain ⟨p21, h22, h⟩ := bnd h
    have w23 := w_X11_partOf (g := g) h22
    refine V.callVi (args := [LI v3, LI (2 : Int32)]) (st := [LI p18, LI p15, LI v1, LR v0]) w23.1 (oo_X11_partOf h22) mk_X11_partOf w23.2 vc_11 ml_RX11_316 im_X11_partOf se_X11_partOf rfl (Nat.le_of_ble_eq_true rfl) (by decide) rfl (Nat.le_of_ble_eq_true rfl) dX11_idle_53 ?_
    refine V.aload_n dX11_idle_56 rfl rfl ?_
    refine V.iload_n dX11_idle_57 rfl rfl ?_
    refine V.iconst dX11_idle_58 ki_3 ?_
    obtain ⟨p24, h25, h⟩ := bnd h
    have w26 := w_X11_partOf (g := g) h25
    refine V.callVi (args := [LI v3, LI (3 : Int32)]) (st := [LI p21, LI p18, LI p15, LI v1, LR v0]) w26.1 (oo_X11_partOf h25) mk_X11_partOf w26.2 vc_11 ml_RX11_316 im_X11_partOf se_X11_partOf rfl (Nat.le_of_ble_eq_true rfl) (by decide) rfl (Nat.le_of_ble_eq_true rfl) dX11_idle_59 ?_
    obtain ⟨p27, h28, h⟩ := bnd h
    have w29 := w_X11_decider (g := g) N h28
    refine V.callVi (args := [LI v1, LI p15, LI p18, LI p21, LI p24]) (st := []) w29.1 (oo_X11_decider h28) mk_X11_decider w29.2 vc_11 ml_RX11_299 im_X11_decider se_X11_decider rfl (Nat.le_of_ble_eq_true rfl) (by decide) rfl (Nat.le_of_ble_eq_true rfl) dX11_idle_62 ?_
    refine V.iload_n dX11_idle_65 rfl rfl ?_
    refine V.icmp_ne (tgt := 71) dX11_idle_66 (by decide) (fun c30 => ?_) (fun c30 => ?_)
    · have h := (if_neg c30).symm.trans h
      refine V.iinc (ls' := [some (LR v0), some (LI v1), some (LI v2), some (LI (v3 + (1 : Int32)))]) dX11_idle_71 rfl ki_1 (by decide) rfl rfl ?_
      refine V.goto (tgt := 28) dX11_idle_74 (by decide) ?_
      refine V.weak [true, true, true, true] ?_
      exact hk28 h
    · have h := (if_pos c30).symm.trans h
      refine V.iconst dX11_idle_69 ki_0 ?_
      obtain rfl := Option.some.inj h
      exact V.ireturn dX11_idle_70
def l_X11_idle_28 (N : Nat) : Nat → LH → Option Nat → Int32 → Int32 → Int32 → Option (Int32 × LH)
  | 0, _, _, _, _, _ => none
  | n + 1, A, v0, v1, v2, v3 => b_X11_idle_28 N (l_X11_idle_28 N n) A v0 v1 v2 v3
theorem wl_X11_idle_28 {g : GG} {n0 z0 : Nat} (N : Nat) : ∀ (n : Nat) {A : LH} {v0 : Option Nat} {v1 : Int32} {v2 : Int32} {v3 : Int32} {p : Int32 × LH}, l_X11_idle_28 N n A v0 v1 v2 v3 = some p → V g m_X11_idle 4 n0 z0 (some (LI p.1)) p.2 A 28 [some (LR v0), some (LI v1), some (LI v2), some (LI v3)] []
  | 0, _, _, _, _, _, _, h => nomatch h
  | n + 1, _, _, _, _, _, _, h => wb_X11_idle_28 N (wl_X11_idle_28 N n) h
def b_X11_idle (N : Nat) (A : LH) (v0 : Option Nat) (v1 : Int32) (v2 : Int32) : Option (Int32 × LH) :=
  (pF A v0 11 0 (LI (0 : Int32))).bind fun A1 => (f_X11_isLine A1 v0 v1 v2).bind fun p3 => if p3 = 0 then some ((0 : Int32), A1) else (pF A1 v0 11 39 (LI (0 : Int32))).bind fun A7 => (pF A7 v0 11 40 (LI (0 : Int32))).bind fun A9 => l_X11_idle_28 N N A9 v0 v1 v2 (0 : Int32)
set_option maxRecDepth 4000 in
theorem wb_X11_idle {g : GG} {n0 z0 : Nat} (N : Nat) {A : LH} {v0 : Option Nat} {v1 : Int32} {v2 : Int32} {p : Int32 × LH} (h : b_X11_idle N A v0 v1 v2 = some p) : V g m_X11_idle 4 n0 z0 (some (LI p.1)) p.2 A 0 [some (LR v0), some (LI v1), some (LI v2)] [] := by
  unfold b_X11_idle at h
  refine V.aload_n dX11_idle_0 rfl rfl ?_
  refine V.iconst dX11_idle_1 ki_0 ?_
  obtain ⟨A1, h2, h⟩ := bnd h
  refine V.putF h2 rfl rfl rfl CF11 (Nat.le_of_ble_eq_true rfl) fl_RX11_94 dX11_idle_2 ?_
  refine V.aload_n dX11_idle_5 rfl rfl ?_
  refine V.iload_n dX11_idle_6 rfl rfl ?_
  refine V.iload_n dX11_idle_7 rfl rfl ?_
  obtain ⟨p3, h4, h⟩ := bnd h
  have w5 := w_X11_isLine (g := g) h4
  refine V.callVi (args := [LI v1, LI v2]) (st := []) w5.1 (oo_X11_isLine h4) mk_X11_isLine w5.2 vc_11 ml_RX11_313 im_X11_isLine se_X11_isLine rfl (Nat.le_of_ble_eq_true rfl) (by decide) rfl (Nat.le_of_ble_eq_true rfl) dX11_idle_8 ?_
  refine V.if_ne (tgt := 16) dX11_idle_11 (by decide) (fun c6 => ?_) (fun c6 => ?_)
  · have h := (if_neg c6).symm.trans h
    refine V.aload_n dX11_idle_16 rfl rfl ?_
    refine V.iconst dX11_idle_17 ki_0 ?_
    obtain ⟨A7, h8, h⟩ := bnd h
    refine V.putF h8 rfl rfl rfl CF11 (Nat.le_of_ble_eq_true rfl) fl_RX11_288 dX11_idle_18 ?_
    refine V.aload_n dX11_idle_21 rfl rfl ?_
    refine V.iconst dX11_idle_22 ki_0 ?_
    obtain ⟨A9, h10, h⟩ := bnd h
    refine V.putF h10 rfl rfl rfl CF11 (Nat.le_of_ble_eq_true rfl) fl_RX11_285 dX11_idle_23 ?_
    refine V.iconst dX11_idle_26 ki_0 ?_
    refine V.istore_n (ls' := [some (LR v0), some (LI v1), some (LI v2), some (LI (0 : Int32))]) dX11_idle_27 rfl (by decide) rfl rfl ?_
    refine V.weak [true, true, true, true] ?_
    exact wl_X11_idle_28 N N h
  · have h := (if_pos c6).symm.trans h
    refine V.iconst dX11_idle_14 ki_0 ?_
    obtain rfl := Option.some.inj h
    exact V.ireturn dX11_idle_15
def f_X11_idle (N : Nat) (A : LH) (v0 : Option Nat) (v1 : Int32) (v2 : Int32) : Option (Int32 × LH) := if isO A v0 11 = true then zc (b_X11_idle N A v0 v1 v2) else none
theorem w_X11_idle {g : GG} (N : Nat) {A : LH} {v0 : Option Nat} {v1 : Int32} {v2 : Int32} {p : Int32 × LH} (h : f_X11_idle N A v0 v1 v2 = some p) : Ct g m_X11_idle 4 [LR v0, LI v1, LI v2] A (some (LI p.1)) p.2 := by
  unfold f_X11_idle at h
  obtain ⟨ho, h⟩ := ifN h
  obtain ⟨h, hz⟩ := zc_sp h
  exact ⟨wb_X11_idle N h, (RTz hz)⟩
theorem oo_X11_idle {N : Nat} {A : LH} {v0 : Option Nat} {v1 : Int32} {v2 : Int32} {p : Int32 × LH} (h : f_X11_idle N A v0 v1 v2 = some p) : isO A v0 11 = true := by unfold f_X11_idle at h; exact (ifN h).1
def b_X11_more_38 (N : Nat) (k38 : LH → Option Nat → Int32 → Int32 → Int32 → Int32 → Option (Int32 × LH)) (A : LH) (v0 : Option Nat) (v1 : Int32) (v2 : Int32) (v3 : Int32) (v4 : Int32) : Option (Int32 × LH) :=
  (f_X11_all A v0).bind fun p15 => if p15 ≤ v4 then some (v3, A) else (f_X11_isAllLet N A v0 v1 v4).bind fun p19 => if p19.1 = 0 then k38 p19.2 v0 v1 v2 (v3 + (0 : Int32)) (v4 + (1 : Int32)) else (f_X11_isAllLet N p19.2 v0 v2 v4).bind fun p23 => if p23.1 = 0 then k38 p23.2 v0 v1 v2 (v3 + (1 : Int32)) (v4 + (1 : Int32)) else k38 p23.2 v0 v1 v2 (v3 + (0 : Int32)) (v4 + (1 : Int32))
set_option maxRecDepth 4000 in
theorem wb_X11_more_38 {g : GG} {n0 z0 : Nat} (N : Nat) {k38 : LH → Option Nat → Int32 → Int32 → Int32 → Int32 → Option (Int32 × LH)} {A : LH} {v0 : Option Nat} {v1 : Int32} {v2 : Int32} {v3 : Int32} {v4 : Int32} {p : Int32 × LH} (hk38 : ∀ {A : LH} {v0 : Option Nat} {v1 : Int32} {v2 : Int32} {v3 : Int32} {v4 : Int32} {p : Int32 × LH}, k38 A v0 v1 v2 v3 v4 = some p → V g m_X11_more 6 n0 z0 (some (LI p.1)) p.2 A 38 [some (LR v0), some (LI v1), some (LI v2), some (LI v3), some (LI v4)] []) (h : b_X11_more_38 N k38 A v0 v1 v2 v3 v4 = some p) : V g m_X11_more 6 n0 z0 (some (LI p.1)) p.2 A 38 [some (LR v0), some (LI v1), some (LI v2), some (LI v3), some (LI v4)] [] := by
  unfold b_X11_more_38 at h
  refine V.iload dX11_more_38 rfl ?_
  refine V.aload_n dX11_more_40 rfl rfl ?_
  obtain ⟨p15, h16, h⟩ := bnd h
  have w17 := w_X11_all (g := g) h16
  refine V.callVi (args := []) (st := [LI v4]) w17.1 (oo_X11_all h16) mk_X11_all w17.2 vc_11 ml_RX11_320 im_X11_all se_X11_all rfl (Nat.le_of_ble_eq_true rfl) (by decide) rfl (Nat.le_of_ble_eq_true rfl) dX11_more_41 ?_
  refine V.icmp_ge (tgt := 81) dX11_more_44 (by decide) (fun c18 => ?_) (fun c18 => ?_)
  · have h := (if_pos c18).symm.trans h
    refine V.iload_n dX11_more_81 rfl rfl ?_
    obtain rfl := Option.some.inj h
    exact V.ireturn dX11_more_82
  · have h := (if_neg c18).symm.trans h
    refine V.iload_n dX11_more_47 rfl rfl ?_
    refine V.aload_n dX11_more_48 rfl rfl ?_
    refine V.iload_n dX11_more_49 rfl rfl ?_
    refine V.iload dX11_more_50 rfl ?_
    obtain ⟨p19, h20, h⟩ := bnd h
    have w21 := w_X11_isAllLet (g := g) N h20
    refine V.callVi (args := [LI v1, LI v4]) (st := [LI v3]) w21.1 (oo_X11_isAllLet h20) mk_X11_isAllLet w21.2 vc_11 ml_RX11_323 im_X11_isAllLet se_X11_isAllLet rfl (Nat.le_of_ble_eq_true rfl) (by decide) rfl (Nat.le_of_ble_eq_true rfl) dX11_more_52 ?_
    refine V.if_eq (tgt := 72) dX11_more_55 (by decide) (fun c22 => ?_) (fun c22 => ?_)
    · have h := (if_pos c22).symm.trans h
      refine V.iconst dX11_more_72 ki_0 ?_
      refine V.iadd dX11_more_73 ?_
      refine V.istore_n (ls' := [some (LR v0), some (LI v1), some (LI v2), some (LI (v3 + (0 : Int32))), some (LI v4)]) dX11_more_74 rfl (by decide) rfl rfl ?_
      refine V.iinc (ls' := [some (LR v0), some (LI v1), some (LI v2), some (LI (v3 + (0 : Int32))), some (LI (v4 + (1 : Int32)))]) dX11_more_75 rfl ki_1 (by decide) rfl rfl ?_
      refine V.goto (tgt := 38) dX11_more_78 (by decide) ?_
      refine V.weak [true, true, true, true, true] ?_
      exact hk38 h
    · have h := (if_neg c22).symm.trans h
      refine V.aload_n dX11_more_58 rfl rfl ?_
      refine V.iload_n dX11_more_59 rfl rfl ?_
      refine V.iload dX11_more_60 rfl ?_
      obtain ⟨p23, h24, h⟩ := bnd h
      have w25 := w_X11_isAllLet (g := g) N h24
      refine V.callVi (args := [LI v2, LI v4]) (st := [LI v3]) w25.1 (oo_X11_isAllLet h24) mk_X11_isAllLet w25.2 vc_11 ml_RX11_323 im_X11_isAllLet se_X11_isAllLet rfl (Nat.le_of_ble_eq_true rfl) (by decide) rfl (Nat.le_of_ble_eq_true rfl) dX11_more_62 ?_
      refine V.if_ne (tgt := 72) dX11_more_65 (by decide) (fun c26 => ?_) (fun c26 => ?_)
      · have h := (if_neg c26).symm.trans h
        refine V.iconst dX11_more_72 ki_0 ?_
        refine V.iadd dX11_more_73 ?_
        refine V.istore_n (ls' := [some (LR v0), some (LI v1), some (LI v2), some (LI (v3 + (0 : Int32))), some (LI v4)]) dX11_more_74 rfl (by decide) rfl rfl ?_
        refine V.iinc (ls' := [some (LR v0), some (LI v1), some (LI v2), some (LI (v3 + (0 : Int32))), some (LI (v4 + (1 : Int32)))]) dX11_more_75 rfl ki_1 (by decide) rfl rfl ?_
        refine V.goto (tgt := 38) dX11_more_78 (by decide) ?_
        refine V.weak [true, true, true, true, true] ?_
        exact hk38 h
      · have h := (if_pos c26).symm.trans h
        refine V.iconst dX11_more_68 ki_1 ?_
        refine V.goto (tgt := 73) dX11_more_69 (by decide) ?_
        refine V.iadd dX11_more_73 ?_
        refine V.istore_n (ls' := [some (LR v0), some (LI v1), some (LI v2), some (LI (v3 + (1 : Int32))), some (LI v4)]) dX11_more_74 rfl (by decide) rfl rfl ?_
        refine V.iinc (ls' := [some (LR v0), some (LI v1), some (LI v2), some (LI (v3 + (1 : Int32))), some (LI (v4 + (1 : Int32)))]) dX11_more_75 rfl ki_1 (by decide) rfl rfl ?_
        refine V.goto (tgt := 38) dX11_more_78 (by decide) ?_
        refine V.weak [true, true, true, true, true] ?_
        exact hk38 h
def l_X11_more_38 (N : Nat) : Nat → LH → Option Nat → Int32 → Int32 → Int32 → Int32 → Option (Int32 × LH)
  | 0, _, _, _, _, _, _ => none
  | n + 1, A, v0, v1, v2, v3, v4 => b_X11_more_38 N (l_X11_more_38 N n) A v0 v1 v2 v3 v4
theorem wl_X11_more_38 {g : GG} {n0 z0 : Nat} (N : Nat) : ∀ (n : Nat) {A : LH} {v0 : Option Nat} {v1 : Int32} {v2 : Int32} {v3 : Int32} {v4 : Int32} {p : Int32 × LH}, l_X11_more_38 N n A v0 v1 v2 v3 v4 = some p → V g m_X11_more 6 n0 z0 (some (LI p.1)) p.2 A 38 [some (LR v0), some (LI v1), some (LI v2), some (LI v3), some (LI v4)] []
  | 0, _, _, _, _, _, _, _, h => nomatch h
  | n + 1, _, _, _, _, _, _, _, h => wb_X11_more_38 N (wl_X11_more_38 N n) h
def b_X11_more (N : Nat) (A : LH) (v0 : Option Nat) (v1 : Int32) (v2 : Int32) : Option (Int32 × LH) :=
  (pF A v0 11 0 (LI (0 : Int32))).bind fun A1 => (f_X11_isSlot A1 v0 v1).bind fun p3 => if p3 = 0 then some ((-1 : Int32), A1) else (f_X11_isSlot A1 v0 v2).bind fun p7 => if p7 = 0 then some ((-1 : Int32), A1) else (pF A1 v0 11 39 (LI (0 : Int32))).bind fun A11 => (pF A11 v0 11 40 (LI (0 : Int32))).bind fun A13 => l_X11_more_38 N N A13 v0 v1 v2 (0 : Int32) (0 : Int32)
set_option maxRecDepth 4000 in
theorem wb_X11_more {g : GG} {n0 z0 : Nat} (N : Nat) {A : LH} {v0 : Option Nat} {v1 : Int32} {v2 : Int32} {p : Int32 × LH} (h : b_X11_more N A v0 v1 v2 = some p) : V g m_X11_more 6 n0 z0 (some (LI p.1)) p.2 A 0 [some (LR v0), some (LI v1), some (LI v2)] [] := by
  unfold b_X11_more at h
  refine V.aload_n dX11_more_0 rfl rfl ?_
  refine V.iconst dX11_more_1 ki_0 ?_
  obtain ⟨A1, h2, h⟩ := bnd h
  refine V.putF h2 rfl rfl rfl CF11 (Nat.le_of_ble_eq_true rfl) fl_RX11_94 dX11_more_2 ?_
  refine V.aload_n dX11_more_5 rfl rfl ?_
  refine V.iload_n dX11_more_6 rfl rfl ?_
  obtain ⟨p3, h4, h⟩ := bnd h
  have w5 := w_X11_isSlot (g := g) h4
  refine V.callVi (args := [LI v1]) (st := []) w5.1 (oo_X11_isSlot h4) mk_X11_isSlot w5.2 vc_11 ml_RX11_259 im_X11_isSlot se_X11_isSlot rfl (Nat.le_of_ble_eq_true rfl) (by decide) rfl (Nat.le_of_ble_eq_true rfl) dX11_more_7 ?_
  refine V.if_eq (tgt := 21) dX11_more_10 (by decide) (fun c6 => ?_) (fun c6 => ?_)
  · have h := (if_pos c6).symm.trans h
    refine V.iconst dX11_more_21 ki_m1 ?_
    obtain rfl := Option.some.inj h
    exact V.ireturn dX11_more_22
  · have h := (if_neg c6).symm.trans h
    refine V.aload_n dX11_more_13 rfl rfl ?_
    refine V.iload_n dX11_more_14 rfl rfl ?_
    obtain ⟨p7, h8, h⟩ := bnd h
    have w9 := w_X11_isSlot (g := g) h8
    refine V.callVi (args := [LI v2]) (st := []) w9.1 (oo_X11_isSlot h8) mk_X11_isSlot w9.2 vc_11 ml_RX11_259 im_X11_isSlot se_X11_isSlot rfl (Nat.le_of_ble_eq_true rfl) (by decide) rfl (Nat.le_of_ble_eq_true rfl) dX11_more_15 ?_
    refine V.if_ne (tgt := 23) dX11_more_18 (by decide) (fun c10 => ?_) (fun c10 => ?_)
    · have h := (if_neg c10).symm.trans h
      refine V.aload_n dX11_more_23 rfl rfl ?_
      refine V.iconst dX11_more_24 ki_0 ?_
      obtain ⟨A11, h12, h⟩ := bnd h
      refine V.putF h12 rfl rfl rfl CF11 (Nat.le_of_ble_eq_true rfl) fl_RX11_288 dX11_more_25 ?_
      refine V.aload_n dX11_more_28 rfl rfl ?_
      refine V.iconst dX11_more_29 ki_0 ?_
      obtain ⟨A13, h14, h⟩ := bnd h
      refine V.putF h14 rfl rfl rfl CF11 (Nat.le_of_ble_eq_true rfl) fl_RX11_285 dX11_more_30 ?_
      refine V.iconst dX11_more_33 ki_0 ?_
      refine V.istore_n (ls' := [some (LR v0), some (LI v1), some (LI v2), some (LI (0 : Int32))]) dX11_more_34 rfl (by decide) rfl rfl ?_
      refine V.iconst dX11_more_35 ki_0 ?_
      refine V.istore (ls' := [some (LR v0), some (LI v1), some (LI v2), some (LI (0 : Int32)), some (LI (0 : Int32))]) dX11_more_36 (by decide) rfl rfl ?_
      refine V.weak [true, true, true, true, true] ?_
      exact wl_X11_more_38 N N h
    · have h := (if_pos c10).symm.trans h
      refine V.iconst dX11_more_21 ki_m1 ?_
      obtain rfl := Option.some.inj h
      exact V.ireturn dX11_more_22
def f_X11_more (N : Nat) (A : LH) (v0 : Option Nat) (v1 : Int32) (v2 : Int32) : Option (Int32 × LH) := if isO A v0 11 = true then b_X11_more N A v0 v1 v2 else none
theorem w_X11_more {g : GG} (N : Nat) {A : LH} {v0 : Option Nat} {v1 : Int32} {v2 : Int32} {p : Int32 × LH} (h : f_X11_more N A v0 v1 v2 = some p) : Ct g m_X11_more 6 [LR v0, LI v1, LI v2] A (some (LI p.1)) p.2 := by
  unfold f_X11_more at h
  obtain ⟨ho, h⟩ := ifN h
  exact ⟨wb_X11_more N h, rfl⟩
theorem oo_X11_more {N : Nat} {A : LH} {v0 : Option Nat} {v1 : Int32} {v2 : Int32} {p : Int32 × LH} (h : f_X11_more N A v0 v1 v2 = some p) : isO A v0 11 = true := by unfold f_X11_more at h; exact (ifN h).1
def b_X11_unlike_45 (N : Nat) (k45 : LH → Option Nat → Int32 → Int32 → Int32 → Int32 → Option (Int32 × LH)) (A : LH) (v0 : Option Nat) (v1 : Int32) (v2 : Int32) (v3 : Int32) (v4 : Int32) : Option (Int32 × LH) :=
  (f_X11_all A v0).bind fun p19 => if p19 ≤ v4 then some ((-1 : Int32), A) else (f_X11_isAllLet N A v0 v1 v4).bind fun p23 => (f_X11_isAllLet N p23.2 v0 v2 v4).bind fun p26 => if p23.1 = p26.1 then k45 p26.2 v0 v1 v2 v3 (v4 + (1 : Int32)) else (f_X11_partOf p26.2 v0 v4 v3).bind fun p30 => some (p30, p26.2)
set_option maxRecDepth 4000 in
theorem wb_X11_unlike_45 {g : GG} {n0 z0 : Nat} (N : Nat) {k45 : LH → Option Nat → Int32 → Int32 → Int32 → Int32 → Option (Int32 × LH)} {A : LH} {v0 : Option Nat} {v1 : Int32} {v2 : Int32} {v3 : Int32} {v4 : Int32} {p : Int32 × LH} (hk45 : ∀ {A : LH} {v0 : Option Nat} {v1 : Int32} {v2 : Int32} {v3 : Int32} {v4 : Int32} {p : Int32 × LH}, k45 A v0 v1 v2 v3 v4 = some p → V g m_X11_unlike 6 n0 z0 (some (LI p.1)) p.2 A 45 [some (LR v0), some (LI v1), some (LI v2), some (LI v3), some (LI v4)] []) (h : b_X11_unlike_45 N k45 A v0 v1 v2 v3 v4 = some p) : V g m_X11_unlike 6 n0 z0 (some (LI p.1)) p.2 A 45 [some (LR v0), some (LI v1), some (LI v2), some (LI v3), some (LI v4)] [] := by
  unfold b_X11_unlike_45 at h
  refine V.iload dX11_unlike_45 rfl ?_
  refine V.aload_n dX11_unlike_47 rfl rfl ?_
  obtain ⟨p19, h20, h⟩ := bnd h
  have w21 := w_X11_all (g := g) h20
  refine V.callVi (args := []) (st := [LI v4]) w21.1 (oo_X11_all h20) mk_X11_all w21.2 vc_11 ml_RX11_320 im_X11_all se_X11_all rfl (Nat.le_of_ble_eq_true rfl) (by decide) rfl (Nat.le_of_ble_eq_true rfl) dX11_unlike_48 ?_
  refine V.icmp_ge (tgt := 85) dX11_unlike_51 (by decide) (fun c22 => ?_) (fun c22 => ?_)
  · have h := (if_pos c22).symm.trans h
    refine V.iconst dX11_unlike_85 ki_m1 ?_
    obtain rfl := Option.some.inj h
    exact V.ireturn dX11_unlike_86
  · have h := (if_neg c22).symm.trans h
    refine V.aload_n dX11_unlike_54 rfl rfl ?_
    refine V.iload_n dX11_unlike_55 rfl rfl ?_
    refine V.iload dX11_unlike_56 rfl ?_
    obtain ⟨p23, h24, h⟩ := bnd h
    have w25 := w_X11_isAllLet (g := g) N h24
    refine V.callVi (args := [LI v1, LI v4]) (st := []) w25.1 (oo_X11_isAllLet h24) mk_X11_isAllLet w25.2 vc_11 ml_RX11_323 im_X11_isAllLet se_X11_isAllLet rfl (Nat.le_of_ble_eq_true rfl) (by decide) rfl (Nat.le_of_ble_eq_true rfl) dX11_unlike_58 ?_
    refine V.aload_n dX11_unlike_61 rfl rfl ?_
    refine V.iload_n dX11_unlike_62 rfl rfl ?_
    refine V.iload dX11_unlike_63 rfl ?_
    obtain ⟨p26, h27, h⟩ := bnd h
    have w28 := w_X11_isAllLet (g := g) N h27
    refine V.callVi (args := [LI v2, LI v4]) (st := [LI p23.1]) w28.1 (oo_X11_isAllLet h27) mk_X11_isAllLet w28.2 vc_11 ml_RX11_323 im_X11_isAllLet se_X11_isAllLet rfl (Nat.le_of_ble_eq_true rfl) (by decide) rfl (Nat.le_of_ble_eq_true rfl) dX11_unlike_65 ?_
    refine V.icmp_eq (tgt := 79) dX11_unlike_68 (by decide) (fun c29 => ?_) (fun c29 => ?_)
    · have h := (if_pos c29).symm.trans h
      refine V.iinc (ls' := [some (LR v0), some (LI v1), some (LI v2), some (LI v3), some (LI (v4 + (1 : Int32)))]) dX11_unlike_79 rfl ki_1 (by decide) rfl rfl ?_
      refine V.goto (tgt := 45) dX11_unlike_82 (by decide) ?_
      refine V.weak [true, true, true, true, true] ?_
      exact hk45 h
    · have h := (if_neg c29).symm.trans h
      refine V.aload_n dX11_unlike_71 rfl rfl ?_
      refine V.iload dX11_unlike_72 rfl ?_
      refine V.iload_n dX11_unlike_74 rfl rfl ?_
      obtain ⟨p30, h31, h⟩ := bnd h
      have w32 := w_X11_partOf (g := g) h31
      refine V.callVi (args := [LI v4, LI v3]) (st := []) w32.1 (oo_X11_partOf h31) mk_X11_partOf w32.2 vc_11 ml_RX11_316 im_X11_partOf se_X11_partOf rfl (Nat.le_of_ble_eq_true rfl) (by decide) rfl (Nat.le_of_ble_eq_true rfl) dX11_unlike_75 ?_
      obtain rfl := Option.some.inj h
      exact V.ireturn dX11_unlike_78
def l_X11_unlike_45 (N : Nat) : Nat → LH → Option Nat → Int32 → Int32 → Int32 → Int32 → Option (Int32 × LH)
  | 0, _, _, _, _, _, _ => none
  | n + 1, A, v0, v1, v2, v3, v4 => b_X11_unlike_45 N (l_X11_unlike_45 N n) A v0 v1 v2 v3 v4
theorem wl_X11_unlike_45 {g : GG} {n0 z0 : Nat} (N : Nat) : ∀ (n : Nat) {A : LH} {v0 : Option Nat} {v1 : Int32} {v2 : Int32} {v3 : Int32} {v4 : Int32} {p : Int32 × LH}, l_X11_unlike_45 N n A v0 v1 v2 v3 v4 = some p → V g m_X11_unlike 6 n0 z0 (some (LI p.1)) p.2 A 45 [some (LR v0), some (LI v1), some (LI v2), some (LI v3), some (LI v4)] []
  | 0, _, _, _, _, _, _, _, h => nomatch h
  | n + 1, _, _, _, _, _, _, _, h => wb_X11_unlike_45 N (wl_X11_unlike_45 N n) h
def b_X11_unlike (N : Nat) (A : LH) (v0 : Option Nat) (v1 : Int32) (v2 : Int32) (v3 : Int32) : Option (Int32 × LH) :=
  (pF A v0 11 0 (LI (0 : Int32))).bind fun A1 => (f_X11_isSlot A1 v0 v1).bind fun p3 => if p3 = 0 then some ((-1 : Int32), A1) else (f_X11_isSlot A1 v0 v2).bind fun p7 => if p7 = 0 then some ((-1 : Int32), A1) else (f_X11_in v3 (0 : Int32) (3 : Int32)).bind fun p11 => if p11 = 0 then some ((-1 : Int32), A1) else (pF A1 v0 11 39 (LI (0 : Int32))).bind fun A15 => (pF A15 v0 11 40 (LI (0 : Int32))).bind fun A17 => l_X11_unlike_45 N N A17 v0 v1 v2 v3 (0 : Int32)
set_option maxRecDepth 4000 in
theorem wb_X11_unlike {g : GG} {n0 z0 : Nat} (N : Nat) {A : LH} {v0 : Option Nat} {v1 : Int32} {v2 : Int32} {v3 : Int32} {p : Int32 × LH} (h : b_X11_unlike N A v0 v1 v2 v3 = some p) : V g m_X11_unlike 6 n0 z0 (some (LI p.1)) p.2 A 0 [some (LR v0), some (LI v1), some (LI v2), some (LI v3)] [] := by
  unfold b_X11_unlike at h
  refine V.aload_n dX11_unlike_0 rfl rfl ?_
  refine V.iconst dX11_unlike_1 ki_0 ?_
  obtain ⟨A1, h2, h⟩ := bnd h
  refine V.putF h2 rfl rfl rfl CF11 (Nat.le_of_ble_eq_true rfl) fl_RX11_94 dX11_unlike_2 ?_
  refine V.aload_n dX11_unlike_5 rfl rfl ?_
  refine V.iload_n dX11_unlike_6 rfl rfl ?_
  obtain ⟨p3, h4, h⟩ := bnd h
  have w5 := w_X11_isSlot (g := g) h4
  refine V.callVi (args := [LI v1]) (st := []) w5.1 (oo_X11_isSlot h4) mk_X11_isSlot w5.2 vc_11 ml_RX11_259 im_X11_isSlot se_X11_isSlot rfl (Nat.le_of_ble_eq_true rfl) (by decide) rfl (Nat.le_of_ble_eq_true rfl) dX11_unlike_7 ?_
  refine V.if_eq (tgt := 30) dX11_unlike_10 (by decide) (fun c6 => ?_) (fun c6 => ?_)
  · have h := (if_pos c6).symm.trans h
    refine V.iconst dX11_unlike_30 ki_m1 ?_
    obtain rfl := Option.some.inj h
    exact V.ireturn dX11_unlike_31
  · have h := (if_neg c6).symm.trans h
    refine V.aload_n dX11_unlike_13 rfl rfl ?_
    refine V.iload_n dX11_unlike_14 rfl rfl ?_
    obtain ⟨p7, h8, h⟩ := bnd h
    have w9 := w_X11_isSlot (g := g) h8
    refine V.callVi (args := [LI v2]) (st := []) w9.1 (oo_X11_isSlot h8) mk_X11_isSlot w9.2 vc_11 ml_RX11_259 im_X11_isSlot se_X11_isSlot rfl (Nat.le_of_ble_eq_true rfl) (by decide) rfl (Nat.le_of_ble_eq_true rfl) dX11_unlike_15 ?_
    refine V.if_eq (tgt := 30) dX11_unlike_18 (by decide) (fun c10 => ?_) (fun c10 => ?_)
    · have h := (if_pos c10).symm.trans h
      refine V.iconst dX11_unlike_30 ki_m1 ?_
      obtain rfl := Option.some.inj h
      exact V.ireturn dX11_unlike_31
    · have h := (if_neg c10).symm.trans h
      refine V.iload_n dX11_unlike_21 rfl rfl ?_
      refine V.iconst dX11_unlike_22 ki_0 ?_
      refine V.iconst dX11_unlike_23 ki_3 ?_
      obtain ⟨p11, h12, h⟩ := bnd h
      have w13 := w_X11_in (g := g) (A := A1) h12
      refine V.callSi (args := [LI v3, LI (0 : Int32), LI (3 : Int32)]) (st := []) w13.1 mk_X11_in w13.2 ml_RX11_108 sm_X11_in rfl (Nat.le_of_ble_eq_true rfl) (by decide) rfl (Nat.le_of_ble_eq_true rfl) dX11_unlike_24 ?_
      refine V.if_ne (tgt := 32) dX11_unlike_27 (by decide) (fun c14 => ?_) (fun c14 => ?_)
      · have h := (if_neg c14).symm.trans h
        refine V.aload_n dX11_unlike_32 rfl rfl ?_
        refine V.iconst dX11_unlike_33 ki_0 ?_
        obtain ⟨A15, h16, h⟩ := bnd h
        refine V.putF h16 rfl rfl rfl CF11 (Nat.le_of_ble_eq_true rfl) fl_RX11_288 dX11_unlike_34 ?_
        refine V.aload_n dX11_unlike_37 rfl rfl ?_
        refine V.iconst dX11_unlike_38 ki_0 ?_
        obtain ⟨A17, h18, h⟩ := bnd h
        refine V.putF h18 rfl rfl rfl CF11 (Nat.le_of_ble_eq_true rfl) fl_RX11_285 dX11_unlike_39 ?_
        refine V.iconst dX11_unlike_42 ki_0 ?_
        refine V.istore (ls' := [some (LR v0), some (LI v1), some (LI v2), some (LI v3), some (LI (0 : Int32))]) dX11_unlike_43 (by decide) rfl rfl ?_
        refine V.weak [true, true, true, true, true] ?_
        exact wl_X11_unlike_45 N N h
      · have h := (if_pos c14).symm.trans h
        refine V.iconst dX11_unlike_30 ki_m1 ?_
        obtain rfl := Option.some.inj h
        exact V.ireturn dX11_unlike_31
def f_X11_unlike (N : Nat) (A : LH) (v0 : Option Nat) (v1 : Int32) (v2 : Int32) (v3 : Int32) : Option (Int32 × LH) := if isO A v0 11 = true then b_X11_unlike N A v0 v1 v2 v3 else none
theorem w_X11_unlike {g : GG} (N : Nat) {A : LH} {v0 : Option Nat} {v1 : Int32} {v2 : Int32} {v3 : Int32} {p : Int32 × LH} (h : f_X11_unlike N A v0 v1 v2 v3 = some p) : Ct g m_X11_unlike 6 [LR v0, LI v1, LI v2, LI v3] A (some (LI p.1)) p.2 := by
  unfold f_X11_unlike at h
  obtain ⟨ho, h⟩ := ifN h
  exact ⟨wb_X11_unlike N h, rfl⟩
theorem oo_X11_unlike {N : Nat} {A : LH} {v0 : Option Nat} {v1 : Int32} {v2 : Int32} {v3 : Int32} {p : Int32 × LH} (h : f_X11_unlike N A v0 v1 v2 v3 = some p) : isO A v0 11 = true := by unfold f_X11_unlike at h; exact (ifN h).1
def b_X11_isMended_127 (N : Nat) (k86 : LH → Option Nat → Int32 → Int32 → Option (Int32 × LH)) (A : LH) (v0 : Option Nat) (v1 : Int32) (v3 : Int32) (s0 : Int32) (s1 : Int32) : Option (Int32 × LH) :=
  if s1 = s0 then k86 A v0 v1 (v3 + (1 : Int32)) else some ((0 : Int32), A)
set_option maxRecDepth 4000 in
theorem wb_X11_isMended_127 {g : GG} {n0 z0 : Nat} (N : Nat) {k86 : LH → Option Nat → Int32 → Int32 → Option (Int32 × LH)} {A : LH} {v0 : Option Nat} {v1 : Int32} {v3 : Int32} {s0 : Int32} {s1 : Int32} {p : Int32 × LH} (hk86 : ∀ {A : LH} {v0 : Option Nat} {v1 : Int32} {v3 : Int32} {p : Int32 × LH}, k86 A v0 v1 v3 = some p → V g m_X11_isMended 6 n0 z0 (some (LI p.1)) p.2 A 86 [some (LR v0), some (LI v1), none, some (LI v3)] []) (h : b_X11_isMended_127 N k86 A v0 v1 v3 s0 s1 = some p) : V g m_X11_isMended 6 n0 z0 (some (LI p.1)) p.2 A 127 [some (LR v0), some (LI v1), none, some (LI v3)] [LI s0, LI s1] := by
  unfold b_X11_isMended_127 at h
  refine V.icmp_eq (tgt := 132) dX11_isMended_127 (by decide) (fun c24 => ?_) (fun c24 => ?_)
  · have h := (if_pos c24).symm.trans h
    refine V.iinc (ls' := [some (LR v0), some (LI v1), none, some (LI (v3 + (1 : Int32)))]) dX11_isMended_132 rfl ki_1 (by decide) rfl rfl ?_
    refine V.goto (tgt := 86) dX11_isMended_135 (by decide) ?_
    refine V.weak [true, true, false, true] ?_
    exact hk86 h
  · have h := (if_neg c24).symm.trans h
    refine V.iconst dX11_isMended_130 ki_0 ?_
    obtain rfl := Option.some.inj h
    exact V.ireturn dX11_isMended_131
def b_X11_isMended_86 (N : Nat) (k86 : LH → Option Nat → Int32 → Int32 → Option (Int32 × LH)) (A : LH) (v0 : Option Nat) (v1 : Int32) (v3 : Int32) : Option (Int32 × LH) :=
  (gR A v0 11 10).bind fun x6 => (aI A x6 0 (0 : Int32)).bind fun x8 => if x8 ≤ v3 then some ((1 : Int32), A) else (gR A v0 11 12).bind fun x11 => (aI A x11 0 v3).bind fun x13 => if x13 = (-1 : Int32) then k86 A v0 v1 (v3 + (1 : Int32)) else (f_X11_isAskLet N A v0 v1 v3).bind fun p16 => (gR p16.2 v0 11 12).bind fun x19 => (aI p16.2 x19 0 v3).bind fun x21 => if x21 = (1 : Int32) then b_X11_isMended_127 N k86 p16.2 v0 v1 v3 (1 : Int32) p16.1 else b_X11_isMended_127 N k86 p16.2 v0 v1 v3 (0 : Int32) p16.1
set_option maxRecDepth 4000 in
theorem wb_X11_isMended_86 {g : GG} {n0 z0 : Nat} (N : Nat) {k86 : LH → Option Nat → Int32 → Int32 → Option (Int32 × LH)} {A : LH} {v0 : Option Nat} {v1 : Int32} {v3 : Int32} {p : Int32 × LH} (hk86 : ∀ {A : LH} {v0 : Option Nat} {v1 : Int32} {v3 : Int32} {p : Int32 × LH}, k86 A v0 v1 v3 = some p → V g m_X11_isMended 6 n0 z0 (some (LI p.1)) p.2 A 86 [some (LR v0), some (LI v1), none, some (LI v3)] []) (h : b_X11_isMended_86 N k86 A v0 v1 v3 = some p) : V g m_X11_isMended 6 n0 z0 (some (LI p.1)) p.2 A 86 [some (LR v0), some (LI v1), none, some (LI v3)] [] := by
  unfold b_X11_isMended_86 at h
  refine V.iload_n dX11_isMended_86 rfl rfl ?_
  refine V.aload_n dX11_isMended_87 rfl rfl ?_
  obtain ⟨x6, h7, h⟩ := bnd h
  refine V.getF (gR_F h7) CF11 (Nat.le_of_ble_eq_true rfl) fl_RX11_35 dX11_isMended_88 ?_
  refine V.iconst dX11_isMended_91 ki_0 ?_
  obtain ⟨x8, h9, h⟩ := bnd h
  refine V.iald h9 dX11_isMended_92 ?_
  refine V.icmp_ge (tgt := 138) dX11_isMended_93 (by decide) (fun c10 => ?_) (fun c10 => ?_)
  · have h := (if_pos c10).symm.trans h
    refine V.iconst dX11_isMended_138 ki_1 ?_
    obtain rfl := Option.some.inj h
    exact V.ireturn dX11_isMended_139
  · have h := (if_neg c10).symm.trans h
    refine V.aload_n dX11_isMended_96 rfl rfl ?_
    obtain ⟨x11, h12, h⟩ := bnd h
    refine V.getF (gR_F h12) CF11 (Nat.le_of_ble_eq_true rfl) fl_RX11_41 dX11_isMended_97 ?_
    refine V.iload_n dX11_isMended_100 rfl rfl ?_
    obtain ⟨x13, h14, h⟩ := bnd h
    refine V.iald h14 dX11_isMended_101 ?_
    refine V.iconst dX11_isMended_102 ki_m1 ?_
    refine V.icmp_eq (tgt := 132) dX11_isMended_103 (by decide) (fun c15 => ?_) (fun c15 => ?_)
    · have h := (if_pos c15).symm.trans h
      refine V.iinc (ls' := [some (LR v0), some (LI v1), none, some (LI (v3 + (1 : Int32)))]) dX11_isMended_132 rfl ki_1 (by decide) rfl rfl ?_
      refine V.goto (tgt := 86) dX11_isMended_135 (by decide) ?_
      refine V.weak [true, true, false, true] ?_
      exact hk86 h
    · have h := (if_neg c15).symm.trans h
      refine V.aload_n dX11_isMended_106 rfl rfl ?_
      refine V.iload_n dX11_isMended_107 rfl rfl ?_
      refine V.iload_n dX11_isMended_108 rfl rfl ?_
      obtain ⟨p16, h17, h⟩ := bnd h
      have w18 := w_X11_isAskLet (g := g) N h17
      refine V.callVi (args := [LI v1, LI v3]) (st := []) w18.1 (oo_X11_isAskLet h17) mk_X11_isAskLet w18.2 vc_11 ml_RX11_310 im_X11_isAskLet se_X11_isAskLet rfl (Nat.le_of_ble_eq_true rfl) (by decide) rfl (Nat.le_of_ble_eq_true rfl) dX11_isMended_109 ?_
      refine V.aload_n dX11_isMended_112 rfl rfl ?_
      obtain ⟨x19, h20, h⟩ := bnd h
      refine V.getF (gR_F h20) CF11 (Nat.le_of_ble_eq_true rfl) fl_RX11_41 dX11_isMended_113 ?_
      refine V.iload_n dX11_isMended_116 rfl rfl ?_
      obtain ⟨x21, h22, h⟩ := bnd h
      refine V.iald h22 dX11_isMended_117 ?_
      refine V.iconst dX11_isMended_118 ki_1 ?_
      refine V.icmp_ne (tgt := 126) dX11_isMended_119 (by decide) (fun c23 => ?_) (fun c23 => ?_)
      · have h := (if_neg c23).symm.trans h
        refine V.iconst dX11_isMended_126 ki_0 ?_
        refine V.weak [true, true, false, true] ?_
        exact wb_X11_isMended_127 N hk86 h
      · have h := (if_pos c23).symm.trans h
        refine V.iconst dX11_isMended_122 ki_1 ?_
        refine V.goto (tgt := 127) dX11_isMended_123 (by decide) ?_
        refine V.weak [true, true, false, true] ?_
        exact wb_X11_isMended_127 N hk86 h
def l_X11_isMended_86 (N : Nat) : Nat → LH → Option Nat → Int32 → Int32 → Option (Int32 × LH)
  | 0, _, _, _, _ => none
  | n + 1, A, v0, v1, v3 => b_X11_isMended_86 N (l_X11_isMended_86 N n) A v0 v1 v3
theorem wl_X11_isMended_86 {g : GG} {n0 z0 : Nat} (N : Nat) : ∀ (n : Nat) {A : LH} {v0 : Option Nat} {v1 : Int32} {v3 : Int32} {p : Int32 × LH}, l_X11_isMended_86 N n A v0 v1 v3 = some p → V g m_X11_isMended 6 n0 z0 (some (LI p.1)) p.2 A 86 [some (LR v0), some (LI v1), none, some (LI v3)] []
  | 0, _, _, _, _, _, h => nomatch h
  | n + 1, _, _, _, _, _, h => wb_X11_isMended_86 N (wl_X11_isMended_86 N n) h
def b_X11_isMended_74 (N : Nat) (k12 : LH → Option Nat → Int32 → Int32 → Int32 → Option (Int32 × LH)) (A : LH) (v0 : Option Nat) (v1 : Int32) (v2 : Int32) (v3 : Int32) (s0 : Int32) (s1 : Int32) (s2 : Option Nat) : Option (Int32 × LH) :=
  (pF A s2 11 40 (LI (s1 ||| s0))).bind fun A41 => k12 A41 v0 v1 v2 (v3 + (1 : Int32))
set_option maxRecDepth 4000 in
theorem wb_X11_isMended_74 {g : GG} {n0 z0 : Nat} (N : Nat) {k12 : LH → Option Nat → Int32 → Int32 → Int32 → Option (Int32 × LH)} {A : LH} {v0 : Option Nat} {v1 : Int32} {v2 : Int32} {v3 : Int32} {s0 : Int32} {s1 : Int32} {s2 : Option Nat} {p : Int32 × LH} (hk12 : ∀ {A : LH} {v0 : Option Nat} {v1 : Int32} {v2 : Int32} {v3 : Int32} {p : Int32 × LH}, k12 A v0 v1 v2 v3 = some p → V g m_X11_isMended 6 n0 z0 (some (LI p.1)) p.2 A 12 [some (LR v0), some (LI v1), some (LI v2), some (LI v3)] []) (h : b_X11_isMended_74 N k12 A v0 v1 v2 v3 s0 s1 s2 = some p) : V g m_X11_isMended 6 n0 z0 (some (LI p.1)) p.2 A 74 [some (LR v0), some (LI v1), some (LI v2), some (LI v3)] [LI s0, LI s1, LR s2] := by
  unfold b_X11_isMended_74 at h
  refine V.ior dX11_isMended_74 ?_
  obtain ⟨A41, h42, h⟩ := bnd h
  refine V.putF h42 rfl rfl rfl CF11 (Nat.le_of_ble_eq_true rfl) fl_RX11_285 dX11_isMended_75 ?_
  refine V.iinc (ls' := [some (LR v0), some (LI v1), some (LI v2), some (LI (v3 + (1 : Int32)))]) dX11_isMended_78 rfl ki_1 (by decide) rfl rfl ?_
  refine V.goto (tgt := 12) dX11_isMended_81 (by decide) ?_
  refine V.weak [true, true, true, true] ?_
  exact hk12 h
def b_X11_isMended_43 (N : Nat) (k12 : LH → Option Nat → Int32 → Int32 → Int32 → Option (Int32 × LH)) (A : LH) (v0 : Option Nat) (v1 : Int32) (v2 : Int32) (v3 : Int32) (s0 : Int32) (s1 : Int32) (s2 : Option Nat) : Option (Int32 × LH) :=
  (pF A s2 11 39 (LI (s1 ||| s0))).bind fun A32 => (gI A32 v0 11 40).bind fun x34 => (gR A32 v0 11 48).bind fun x36 => (aI A32 x36 0 v3).bind fun x38 => if x38 = (1 : Int32) then (gR A32 v0 11 47).bind fun x43 => (aI A32 x43 0 v3).bind fun x45 => b_X11_isMended_74 N k12 A32 v0 v1 v2 v3 ((1 : Int32) <<< (x45 &&& 31)) x34 v0 else b_X11_isMended_74 N k12 A32 v0 v1 v2 v3 (0 : Int32) x34 v0
set_option maxRecDepth 4000 in
theorem wb_X11_isMended_43 {g : GG} {n0 z0 : Nat} (N : Nat) {k12 : LH → Option Nat → Int32 → Int32 → Int32 → Option (Int32 × LH)} {A : LH} {v0 : Option Nat} {v1 : Int32} {v2 : Int32} {v3 : Int32} {s0 : Int32} {s1 : Int32} {s2 : Option Nat} {p : Int32 × LH} (hk12 : ∀ {A : LH} {v0 : Option Nat} {v1 : Int32} {v2 : Int32} {v3 : Int32} {p : Int32 × LH}, k12 A v0 v1 v2 v3 = some p → V g m_X11_isMended 6 n0 z0 (some (LI p.1)) p.2 A 12 [some (LR v0), some (LI v1), some (LI v2), some (LI v3)] []) (h : b_X11_isMended_43 N k12 A v0 v1 v2 v3 s0 s1 s2 = some p) : V g m_X11_isMended 6 n0 z0 (some (LI p.1)) p.2 A 43 [some (LR v0), some (LI v1), some (LI v2), some (LI v3)] [LI s0, LI s1, LR s2] := by
  unfold b_X11_isMended_43 at h
  refine V.ior dX11_isMended_43 ?_
  obtain ⟨A32, h33, h⟩ := bnd h
  refine V.putF h33 rfl rfl rfl CF11 (Nat.le_of_ble_eq_true rfl) fl_RX11_288 dX11_isMended_44 ?_
  refine V.aload_n dX11_isMended_47 rfl rfl ?_
  refine V.dup dX11_isMended_48 rfl ?_
  obtain ⟨x34, h35, h⟩ := bnd h
  refine V.getF (gI_F h35) CF11 (Nat.le_of_ble_eq_true rfl) fl_RX11_285 dX11_isMended_49 ?_
  refine V.aload_n dX11_isMended_52 rfl rfl ?_
  obtain ⟨x36, h37, h⟩ := bnd h
  refine V.getF (gR_F h37) CF11 (Nat.le_of_ble_eq_true rfl) fl_RX11_87 dX11_isMended_53 ?_
  refine V.iload_n dX11_isMended_56 rfl rfl ?_
  obtain ⟨x38, h39, h⟩ := bnd h
  refine V.iald h39 dX11_isMended_57 ?_
  refine V.iconst dX11_isMended_58 ki_1 ?_
  refine V.icmp_ne (tgt := 73) dX11_isMended_59 (by decide) (fun c40 => ?_) (fun c40 => ?_)
  · have h := (if_neg c40).symm.trans h
    refine V.iconst dX11_isMended_73 ki_0 ?_
    refine V.weak [true, true, true, true] ?_
    exact wb_X11_isMended_74 N hk12 h
  · have h := (if_pos c40).symm.trans h
    refine V.iconst dX11_isMended_62 ki_1 ?_
    refine V.aload_n dX11_isMended_63 rfl rfl ?_
    obtain ⟨x43, h44, h⟩ := bnd h
    refine V.getF (gR_F h44) CF11 (Nat.le_of_ble_eq_true rfl) fl_RX11_84 dX11_isMended_64 ?_
    refine V.iload_n dX11_isMended_67 rfl rfl ?_
    obtain ⟨x45, h46, h⟩ := bnd h
    refine V.iald h46 dX11_isMended_68 ?_
    refine V.ishl dX11_isMended_69 ?_
    refine V.goto (tgt := 74) dX11_isMended_70 (by decide) ?_
    refine V.weak [true, true, true, true] ?_
    exact wb_X11_isMended_74 N hk12 h
def b_X11_isMended_12 (N : Nat) (k12 : LH → Option Nat → Int32 → Int32 → Int32 → Option (Int32 × LH)) (A : LH) (v0 : Option Nat) (v1 : Int32) (v2 : Int32) (v3 : Int32) : Option (Int32 × LH) :=
  if v2 ≤ v3 then l_X11_isMended_86 N N A v0 v1 (0 : Int32) else (gI A v0 11 39).bind fun x25 => (gR A v0 11 48).bind fun x27 => (aI A x27 0 v3).bind fun x29 => if x29 = 0 then (gR A v0 11 47).bind fun x47 => (aI A x47 0 v3).bind fun x49 => b_X11_isMended_43 N k12 A v0 v1 v2 v3 ((1 : Int32) <<< (x49 &&& 31)) x25 v0 else b_X11_isMended_43 N k12 A v0 v1 v2 v3 (0 : Int32) x25 v0
set_option maxRecDepth 4000 in
theorem wb_X11_isMended_12 {g : GG} {n0 z0 : Nat} (N : Nat) {k12 : LH → Option Nat → Int32 → Int32 → Int32 → Option (Int32 × LH)} {A : LH} {v0 : Option Nat} {v1 : Int32} {v2 : Int32} {v3 : Int32} {p : Int32 × LH} (hk12 : ∀ {A : LH} {v0 : Option Nat} {v1 : Int32} {v2 : Int32} {v3 : Int32} {p : Int32 × LH}, k12 A v0 v1 v2 v3 = some p → V g m_X11_isMended 6 n0 z0 (some (LI p.1)) p.2 A 12 [some (LR v0), some (LI v1), some (LI v2), some (LI v3)] []) (h : b_X11_isMended_12 N k12 A v0 v1 v2 v3 = some p) : V g m_X11_isMended 6 n0 z0 (some (LI p.1)) p.2 A 12 [some (LR v0), some (LI v1), some (LI v2), some (LI v3)] [] := by
  unfold b_X11_isMended_12 at h
  refine V.iload_n dX11_isMended_12 rfl rfl ?_
  refine V.iload_n dX11_isMended_13 rfl rfl ?_
  refine V.icmp_ge (tgt := 84) dX11_isMended_14 (by decide) (fun c5 => ?_) (fun c5 => ?_)
  · have h := (if_pos c5).symm.trans h
    refine V.iconst dX11_isMended_84 ki_0 ?_
    refine V.istore_n (ls' := [some (LR v0), some (LI v1), some (LI v2), some (LI (0 : Int32))]) dX11_isMended_85 rfl (by decide) rfl rfl ?_
    refine V.weak [true, true, false, true] ?_
    exact wl_X11_isMended_86 N N h
  · have h := (if_neg c5).symm.trans h
    refine V.aload_n dX11_isMended_17 rfl rfl ?_
    refine V.dup dX11_isMended_18 rfl ?_
    obtain ⟨x25, h26, h⟩ := bnd h
    refine V.getF (gI_F h26) CF11 (Nat.le_of_ble_eq_true rfl) fl_RX11_288 dX11_isMended_19 ?_
    refine V.aload_n dX11_isMended_22 rfl rfl ?_
    obtain ⟨x27, h28, h⟩ := bnd h
    refine V.getF (gR_F h28) CF11 (Nat.le_of_ble_eq_true rfl) fl_RX11_87 dX11_isMended_23 ?_
    refine V.iload_n dX11_isMended_26 rfl rfl ?_
    obtain ⟨x29, h30, h⟩ := bnd h
    refine V.iald h30 dX11_isMended_27 ?_
    refine V.if_ne (tgt := 42) dX11_isMended_28 (by decide) (fun c31 => ?_) (fun c31 => ?_)
    · have h := (if_neg c31).symm.trans h
      refine V.iconst dX11_isMended_42 ki_0 ?_
      refine V.weak [true, true, true, true] ?_
      exact wb_X11_isMended_43 N hk12 h
    · have h := (if_pos c31).symm.trans h
      refine V.iconst dX11_isMended_31 ki_1 ?_
      refine V.aload_n dX11_isMended_32 rfl rfl ?_
      obtain ⟨x47, h48, h⟩ := bnd h
      refine V.getF (gR_F h48) CF11 (Nat.le_of_ble_eq_true rfl) fl_RX11_84 dX11_isMended_33 ?_
      refine V.iload_n dX11_isMended_36 rfl rfl ?_
      obtain ⟨x49, h50, h⟩ := bnd h
      refine V.iald h50 dX11_isMended_37 ?_
      refine V.ishl dX11_isMended_38 ?_
      refine V.goto (tgt := 43) dX11_isMended_39 (by decide) ?_
      refine V.weak [true, true, true, true] ?_
      exact wb_X11_isMended_43 N hk12 h
def l_X11_isMended_12 (N : Nat) : Nat → LH → Option Nat → Int32 → Int32 → Int32 → Option (Int32 × LH)
  | 0, _, _, _, _, _ => none
  | n + 1, A, v0, v1, v2, v3 => b_X11_isMended_12 N (l_X11_isMended_12 N n) A v0 v1 v2 v3
theorem wl_X11_isMended_12 {g : GG} {n0 z0 : Nat} (N : Nat) : ∀ (n : Nat) {A : LH} {v0 : Option Nat} {v1 : Int32} {v2 : Int32} {v3 : Int32} {p : Int32 × LH}, l_X11_isMended_12 N n A v0 v1 v2 v3 = some p → V g m_X11_isMended 6 n0 z0 (some (LI p.1)) p.2 A 12 [some (LR v0), some (LI v1), some (LI v2), some (LI v3)] []
  | 0, _, _, _, _, _, _, h => nomatch h
  | n + 1, _, _, _, _, _, _, h => wb_X11_isMended_12 N (wl_X11_isMended_12 N n) h
def b_X11_isMended (N : Nat) (A : LH) (v0 : Option Nat) (v1 : Int32) (v2 : Int32) : Option (Int32 × LH) :=
  (pF A v0 11 39 (LI (0 : Int32))).bind fun A1 => (pF A1 v0 11 40 (LI (0 : Int32))).bind fun A3 => l_X11_isMended_12 N N A3 v0 v1 v2 (0 : Int32)
set_option maxRecDepth 4000 in
theorem wb_X11_isMended {g : GG} {n0 z0 : Nat} (N : Nat) {A : LH} {v0 : Option Nat} {v1 : Int32} {v2 : Int32} {p : Int32 × LH} (h : b_X11_isMended N A v0 v1 v2 = some p) : V g m_X11_isMended 6 n0 z0 (some (LI p.1)) p.2 A 0 [some (LR v0), some (LI v1), some (LI v2)] [] := by
  unfold b_X11_isMended at h
  refine V.aload_n dX11_isMended_0 rfl rfl ?_
  refine V.iconst dX11_isMended_1 ki_0 ?_
  obtain ⟨A1, h2, h⟩ := bnd h
  refine V.putF h2 rfl rfl rfl CF11 (Nat.le_of_ble_eq_true rfl) fl_RX11_288 dX11_isMended_2 ?_
  refine V.aload_n dX11_isMended_5 rfl rfl ?_
  refine V.iconst dX11_isMended_6 ki_0 ?_
  obtain ⟨A3, h4, h⟩ := bnd h
  refine V.putF h4 rfl rfl rfl CF11 (Nat.le_of_ble_eq_true rfl) fl_RX11_285 dX11_isMended_7 ?_
  refine V.iconst dX11_isMended_10 ki_0 ?_
  refine V.istore_n (ls' := [some (LR v0), some (LI v1), some (LI v2), some (LI (0 : Int32))]) dX11_isMended_11 rfl (by decide) rfl rfl ?_
  refine V.weak [true, true, true, true] ?_
  exact wl_X11_isMended_12 N N h
def f_X11_isMended (N : Nat) (A : LH) (v0 : Option Nat) (v1 : Int32) (v2 : Int32) : Option (Int32 × LH) := if isO A v0 11 = true then zc (b_X11_isMended N A v0 v1 v2) else none
theorem w_X11_isMended {g : GG} (N : Nat) {A : LH} {v0 : Option Nat} {v1 : Int32} {v2 : Int32} {p : Int32 × LH} (h : f_X11_isMended N A v0 v1 v2 = some p) : Ct g m_X11_isMended 6 [LR v0, LI v1, LI v2] A (some (LI p.1)) p.2 := by
  unfold f_X11_isMended at h
  obtain ⟨ho, h⟩ := ifN h
  obtain ⟨h, hz⟩ := zc_sp h
  exact ⟨wb_X11_isMended N h, (RTz hz)⟩
theorem oo_X11_isMended {N : Nat} {A : LH} {v0 : Option Nat} {v1 : Int32} {v2 : Int32} {p : Int32 × LH} (h : f_X11_isMended N A v0 v1 v2 = some p) : isO A v0 11 = true := by unfold f_X11_isMended at h; exact (ifN h).1
def b_X11_goesOn_68 (N : Nat) (k68 : LH → Option Nat → Int32 → Int32 → Option (Int32 × LH)) (A : LH) (v0 : Option Nat) (v2 : Int32) (v4 : Int32) : Option (Int32 × LH) :=
  if v2 ≤ v4 then some ((1 : Int32), A) else (gR A v0 11 47).bind fun x27 => (gR A v0 11 47).bind fun x29 => (aI A x29 0 (v4 - (1 : Int32))).bind fun x31 => (sI A x27 0 v4 (x31 + (1 : Int32))).bind fun A33 => (gR A33 v0 11 48).bind fun x35 => (sI A33 x35 0 v4 (0 : Int32)).bind fun A37 => k68 A37 v0 v2 (v4 + (1 : Int32))
set_option maxRecDepth 4000 in
theorem wb_X11_goesOn_68 {g : GG} {n0 z0 : Nat} (N : Nat) {k68 : LH → Option Nat → Int32 → Int32 → Option (Int32 × LH)} {A : LH} {v0 : Option Nat} {v2 : Int32} {v4 : Int32} {p : Int32 × LH} (hk68 : ∀ {A : LH} {v0 : Option Nat} {v2 : Int32} {v4 : Int32} {p : Int32 × LH}, k68 A v0 v2 v4 = some p → V g m_X11_goesOn 0 n0 z0 (some (LI p.1)) p.2 A 68 [some (LR v0), none, some (LI v2), none, some (LI v4)] []) (h : b_X11_goesOn_68 N k68 A v0 v2 v4 = some p) : V g m_X11_goesOn 0 n0 z0 (some (LI p.1)) p.2 A 68 [some (LR v0), none, some (LI v2), none, some (LI v4)] [] := by
  unfold b_X11_goesOn_68 at h
  refine V.iload dX11_goesOn_68 rfl ?_
  refine V.iload_n dX11_goesOn_70 rfl rfl ?_
  refine V.icmp_ge (tgt := 106) dX11_goesOn_71 (by decide) (fun c26 => ?_) (fun c26 => ?_)
  · have h := (if_pos c26).symm.trans h
    refine V.iconst dX11_goesOn_106 ki_1 ?_
    obtain rfl := Option.some.inj h
    exact V.ireturn dX11_goesOn_107
  · have h := (if_neg c26).symm.trans h
    refine V.aload_n dX11_goesOn_74 rfl rfl ?_
    obtain ⟨x27, h28, h⟩ := bnd h
    refine V.getF (gR_F h28) CF11 (Nat.le_of_ble_eq_true rfl) fl_RX11_84 dX11_goesOn_75 ?_
    refine V.iload dX11_goesOn_78 rfl ?_
    refine V.aload_n dX11_goesOn_80 rfl rfl ?_
    obtain ⟨x29, h30, h⟩ := bnd h
    refine V.getF (gR_F h30) CF11 (Nat.le_of_ble_eq_true rfl) fl_RX11_84 dX11_goesOn_81 ?_
    refine V.iload dX11_goesOn_84 rfl ?_
    refine V.iconst dX11_goesOn_86 ki_1 ?_
    refine V.isub dX11_goesOn_87 ?_
    obtain ⟨x31, h32, h⟩ := bnd h
    refine V.iald h32 dX11_goesOn_88 ?_
    refine V.iconst dX11_goesOn_89 ki_1 ?_
    refine V.iadd dX11_goesOn_90 ?_
    obtain ⟨A33, h34, h⟩ := bnd h
    refine V.iast h34 dX11_goesOn_91 ?_
    refine V.aload_n dX11_goesOn_92 rfl rfl ?_
    obtain ⟨x35, h36, h⟩ := bnd h
    refine V.getF (gR_F h36) CF11 (Nat.le_of_ble_eq_true rfl) fl_RX11_87 dX11_goesOn_93 ?_
    refine V.iload dX11_goesOn_96 rfl ?_
    refine V.iconst dX11_goesOn_98 ki_0 ?_
    obtain ⟨A37, h38, h⟩ := bnd h
    refine V.iast h38 dX11_goesOn_99 ?_
    refine V.iinc (ls' := [some (LR v0), none, some (LI v2), none, some (LI (v4 + (1 : Int32)))]) dX11_goesOn_100 rfl ki_1 (by decide) rfl rfl ?_
    refine V.goto (tgt := 68) dX11_goesOn_103 (by decide) ?_
    refine V.weak [true, false, true, false, true] ?_
    exact hk68 h
def l_X11_goesOn_68 (N : Nat) : Nat → LH → Option Nat → Int32 → Int32 → Option (Int32 × LH)
  | 0, _, _, _, _ => none
  | n + 1, A, v0, v2, v4 => b_X11_goesOn_68 N (l_X11_goesOn_68 N n) A v0 v2 v4
theorem wl_X11_goesOn_68 {g : GG} {n0 z0 : Nat} (N : Nat) : ∀ (n : Nat) {A : LH} {v0 : Option Nat} {v2 : Int32} {v4 : Int32} {p : Int32 × LH}, l_X11_goesOn_68 N n A v0 v2 v4 = some p → V g m_X11_goesOn 0 n0 z0 (some (LI p.1)) p.2 A 68 [some (LR v0), none, some (LI v2), none, some (LI v4)] []
  | 0, _, _, _, _, _, h => nomatch h
  | n + 1, _, _, _, _, _, h => wb_X11_goesOn_68 N (wl_X11_goesOn_68 N n) h
def b_X11_goesOn_4 (N : Nat) (k4 : LH → Option Nat → Int32 → Int32 → Int32 → Option (Int32 × LH)) (A : LH) (v0 : Option Nat) (v1 : Int32) (v2 : Int32) (v3 : Int32) : Option (Int32 × LH) :=
  if v3 < 0 then some ((0 : Int32), A) else (gR A v0 11 48).bind fun x2 => (aI A x2 0 v3).bind fun x4 => if x4 = 0 then (gR A v0 11 48).bind fun x39 => (sI A x39 0 v3 (1 : Int32)).bind fun A41 => l_X11_goesOn_68 N N A41 v0 v2 (v3 + (1 : Int32)) else (gR A v0 11 47).bind fun x7 => (aI A x7 0 v3).bind fun x9 => (gR A v0 11 14).bind fun x11 => (aI A x11 0 v1).bind fun x13 => if ((x13 - v2) + v3) ≤ x9 then k4 A v0 v1 v2 (v3 + (-1 : Int32)) else (gR A v0 11 47).bind fun x16 => (aI A x16 0 v3).bind fun x18 => (sI A x16 0 v3 (x18 + (1 : Int32))).bind fun A20 => (gR A20 v0 11 48).bind fun x22 => (sI A20 x22 0 v3 (0 : Int32)).bind fun A24 => l_X11_goesOn_68 N N A24 v0 v2 (v3 + (1 : Int32))
set_option maxRecDepth 4000 in
theorem wb_X11_goesOn_4 {g : GG} {n0 z0 : Nat} (N : Nat) {k4 : LH → Option Nat → Int32 → Int32 → Int32 → Option (Int32 × LH)} {A : LH} {v0 : Option Nat} {v1 : Int32} {v2 : Int32} {v3 : Int32} {p : Int32 × LH} (hk4 : ∀ {A : LH} {v0 : Option Nat} {v1 : Int32} {v2 : Int32} {v3 : Int32} {p : Int32 × LH}, k4 A v0 v1 v2 v3 = some p → V g m_X11_goesOn 0 n0 z0 (some (LI p.1)) p.2 A 4 [some (LR v0), some (LI v1), some (LI v2), some (LI v3)] []) (h : b_X11_goesOn_4 N k4 A v0 v1 v2 v3 = some p) : V g m_X11_goesOn 0 n0 z0 (some (LI p.1)) p.2 A 4 [some (LR v0), some (LI v1), some (LI v2), some (LI v3)] [] := by
  unfold b_X11_goesOn_4 at h
  refine V.iload_n dX11_goesOn_4 rfl rfl ?_
  refine V.if_lt (tgt := 114) dX11_goesOn_5 (by decide) (fun c1 => ?_) (fun c1 => ?_)
  · have h := (if_pos c1).symm.trans h
    refine V.iconst dX11_goesOn_114 ki_0 ?_
    obtain rfl := Option.some.inj h
    exact V.ireturn dX11_goesOn_115
  · have h := (if_neg c1).symm.trans h
    refine V.aload_n dX11_goesOn_8 rfl rfl ?_
    obtain ⟨x2, h3, h⟩ := bnd h
    refine V.getF (gR_F h3) CF11 (Nat.le_of_ble_eq_true rfl) fl_RX11_87 dX11_goesOn_9 ?_
    refine V.iload_n dX11_goesOn_12 rfl rfl ?_
    obtain ⟨x4, h5, h⟩ := bnd h
    refine V.iald h5 dX11_goesOn_13 ?_
    refine V.if_ne (tgt := 27) dX11_goesOn_14 (by decide) (fun c6 => ?_) (fun c6 => ?_)
    · have h := (if_neg c6).symm.trans h
      refine V.aload_n dX11_goesOn_27 rfl rfl ?_
      obtain ⟨x7, h8, h⟩ := bnd h
      refine V.getF (gR_F h8) CF11 (Nat.le_of_ble_eq_true rfl) fl_RX11_84 dX11_goesOn_28 ?_
      refine V.iload_n dX11_goesOn_31 rfl rfl ?_
      obtain ⟨x9, h10, h⟩ := bnd h
      refine V.iald h10 dX11_goesOn_32 ?_
      refine V.aload_n dX11_goesOn_33 rfl rfl ?_
      obtain ⟨x11, h12, h⟩ := bnd h
      refine V.getF (gR_F h12) CF11 (Nat.le_of_ble_eq_true rfl) fl_RX11_47 dX11_goesOn_34 ?_
      refine V.iload_n dX11_goesOn_37 rfl rfl ?_
      obtain ⟨x13, h14, h⟩ := bnd h
      refine V.iald h14 dX11_goesOn_38 ?_
      refine V.iload_n dX11_goesOn_39 rfl rfl ?_
      refine V.isub dX11_goesOn_40 ?_
      refine V.iload_n dX11_goesOn_41 rfl rfl ?_
      refine V.iadd dX11_goesOn_42 ?_
      refine V.icmp_ge (tgt := 108) dX11_goesOn_43 (by decide) (fun c15 => ?_) (fun c15 => ?_)
      · have h := (if_pos c15).symm.trans h
        refine V.iinc (ls' := [some (LR v0), some (LI v1), some (LI v2), some (LI (v3 + (-1 : Int32)))]) dX11_goesOn_108 rfl ki_m1 (by decide) rfl rfl ?_
        refine V.goto (tgt := 4) dX11_goesOn_111 (by decide) ?_
        refine V.weak [true, true, true, true] ?_
        exact hk4 h
      · have h := (if_neg c15).symm.trans h
        refine V.aload_n dX11_goesOn_46 rfl rfl ?_
        obtain ⟨x16, h17, h⟩ := bnd h
        refine V.getF (gR_F h17) CF11 (Nat.le_of_ble_eq_true rfl) fl_RX11_84 dX11_goesOn_47 ?_
        refine V.iload_n dX11_goesOn_50 rfl rfl ?_
        refine V.dup2 dX11_goesOn_51 rfl rfl ?_
        obtain ⟨x18, h19, h⟩ := bnd h
        refine V.iald h19 dX11_goesOn_52 ?_
        refine V.iconst dX11_goesOn_53 ki_1 ?_
        refine V.iadd dX11_goesOn_54 ?_
        obtain ⟨A20, h21, h⟩ := bnd h
        refine V.iast h21 dX11_goesOn_55 ?_
        refine V.aload_n dX11_goesOn_56 rfl rfl ?_
        obtain ⟨x22, h23, h⟩ := bnd h
        refine V.getF (gR_F h23) CF11 (Nat.le_of_ble_eq_true rfl) fl_RX11_87 dX11_goesOn_57 ?_
        refine V.iload_n dX11_goesOn_60 rfl rfl ?_
        refine V.iconst dX11_goesOn_61 ki_0 ?_
        obtain ⟨A24, h25, h⟩ := bnd h
        refine V.iast h25 dX11_goesOn_62 ?_
        refine V.iload_n dX11_goesOn_63 rfl rfl ?_
        refine V.iconst dX11_goesOn_64 ki_1 ?_
        refine V.iadd dX11_goesOn_65 ?_
        refine V.istore (ls' := [some (LR v0), some (LI v1), some (LI v2), some (LI v3), some (LI (v3 + (1 : Int32)))]) dX11_goesOn_66 (by decide) rfl rfl ?_
        refine V.weak [true, false, true, false, true] ?_
        exact wl_X11_goesOn_68 N N h
    · have h := (if_pos c6).symm.trans h
      refine V.aload_n dX11_goesOn_17 rfl rfl ?_
      obtain ⟨x39, h40, h⟩ := bnd h
      refine V.getF (gR_F h40) CF11 (Nat.le_of_ble_eq_true rfl) fl_RX11_87 dX11_goesOn_18 ?_
      refine V.iload_n dX11_goesOn_21 rfl rfl ?_
      refine V.iconst dX11_goesOn_22 ki_1 ?_
      obtain ⟨A41, h42, h⟩ := bnd h
      refine V.iast h42 dX11_goesOn_23 ?_
      refine V.goto (tgt := 63) dX11_goesOn_24 (by decide) ?_
      refine V.iload_n dX11_goesOn_63 rfl rfl ?_
      refine V.iconst dX11_goesOn_64 ki_1 ?_
      refine V.iadd dX11_goesOn_65 ?_
      refine V.istore (ls' := [some (LR v0), some (LI v1), some (LI v2), some (LI v3), some (LI (v3 + (1 : Int32)))]) dX11_goesOn_66 (by decide) rfl rfl ?_
      refine V.weak [true, false, true, false, true] ?_
      exact wl_X11_goesOn_68 N N h
def l_X11_goesOn_4 (N : Nat) : Nat → LH → Option Nat → Int32 → Int32 → Int32 → Option (Int32 × LH)
  | 0, _, _, _, _, _ => none
  | n + 1, A, v0, v1, v2, v3 => b_X11_goesOn_4 N (l_X11_goesOn_4 N n) A v0 v1 v2 v3
theorem wl_X11_goesOn_4 {g : GG} {n0 z0 : Nat} (N : Nat) : ∀ (n : Nat) {A : LH} {v0 : Option Nat} {v1 : Int32} {v2 : Int32} {v3 : Int32} {p : Int32 × LH}, l_X11_goesOn_4 N n A v0 v1 v2 v3 = some p → V g m_X11_goesOn 0 n0 z0 (some (LI p.1)) p.2 A 4 [some (LR v0), some (LI v1), some (LI v2), some (LI v3)] []
  | 0, _, _, _, _, _, _, h => nomatch h
  | n + 1, _, _, _, _, _, _, h => wb_X11_goesOn_4 N (wl_X11_goesOn_4 N n) h
def b_X11_goesOn (N : Nat) (A : LH) (v0 : Option Nat) (v1 : Int32) (v2 : Int32) : Option (Int32 × LH) :=
  l_X11_goesOn_4 N N A v0 v1 v2 (v2 - (1 : Int32))
set_option maxRecDepth 4000 in
theorem wb_X11_goesOn {g : GG} {n0 z0 : Nat} (N : Nat) {A : LH} {v0 : Option Nat} {v1 : Int32} {v2 : Int32} {p : Int32 × LH} (h : b_X11_goesOn N A v0 v1 v2 = some p) : V g m_X11_goesOn 0 n0 z0 (some (LI p.1)) p.2 A 0 [some (LR v0), some (LI v1), some (LI v2)] [] := by
  unfold b_X11_goesOn at h
  refine V.iload_n dX11_goesOn_0 rfl rfl ?_
  refine V.iconst dX11_goesOn_1 ki_1 ?_
  refine V.isub dX11_goesOn_2 ?_
  refine V.istore_n (ls' := [some (LR v0), some (LI v1), some (LI v2), some (LI (v2 - (1 : Int32)))]) dX11_goesOn_3 rfl (by decide) rfl rfl ?_
  refine V.weak [true, true, true, true] ?_
  exact wl_X11_goesOn_4 N N h
def f_X11_goesOn (N : Nat) (A : LH) (v0 : Option Nat) (v1 : Int32) (v2 : Int32) : Option (Int32 × LH) := if isO A v0 11 = true then zc (b_X11_goesOn N A v0 v1 v2) else none
theorem w_X11_goesOn {g : GG} (N : Nat) {A : LH} {v0 : Option Nat} {v1 : Int32} {v2 : Int32} {p : Int32 × LH} (h : f_X11_goesOn N A v0 v1 v2 = some p) : Ct g m_X11_goesOn 0 [LR v0, LI v1, LI v2] A (some (LI p.1)) p.2 := by
  unfold f_X11_goesOn at h
  obtain ⟨ho, h⟩ := ifN h
  obtain ⟨h, hz⟩ := zc_sp h
  exact ⟨wb_X11_goesOn N h, (RTz hz)⟩
theorem oo_X11_goesOn {N : Nat} {A : LH} {v0 : Option Nat} {v1 : Int32} {v2 : Int32} {p : Int32 × LH} (h : f_X11_goesOn N A v0 v1 v2 = some p) : isO A v0 11 = true := by unfold f_X11_goesOn at h; exact (ifN h).1
def b_X11_mend_121 (N : Nat) (k121 : LH → Option Nat → Int32 → Int32 → Option (Int32 × LH)) (A : LH) (v0 : Option Nat) (v2 : Int32) (v4 : Int32) : Option (Int32 × LH) :=
  if v2 ≤ v4 then some (v2, A) else (gR A v0 11 45).bind fun x32 => (gR A v0 11 47).bind fun x34 => (aI A x34 0 v4).bind fun x36 => (sI A x32 0 v4 x36).bind fun A38 => (gR A38 v0 11 46).bind fun x40 => (gR A38 v0 11 48).bind fun x42 => (aI A38 x42 0 v4).bind fun x44 => (sI A38 x40 0 v4 x44).bind fun A46 => k121 A46 v0 v2 (v4 + (1 : Int32))
set_option maxRecDepth 4000 in
theorem wb_X11_mend_121 {g : GG} {n0 z0 : Nat} (N : Nat) {k121 : LH → Option Nat → Int32 → Int32 → Option (Int32 × LH)} {A : LH} {v0 : Option Nat} {v2 : Int32} {v4 : Int32} {p : Int32 × LH} (hk121 : ∀ {A : LH} {v0 : Option Nat} {v2 : Int32} {v4 : Int32} {p : Int32 × LH}, k121 A v0 v2 v4 = some p → V g m_X11_mend 7 n0 z0 (some (LI p.1)) p.2 A 121 [some (LR v0), none, some (LI v2), none, some (LI v4)] []) (h : b_X11_mend_121 N k121 A v0 v2 v4 = some p) : V g m_X11_mend 7 n0 z0 (some (LI p.1)) p.2 A 121 [some (LR v0), none, some (LI v2), none, some (LI v4)] [] := by
  unfold b_X11_mend_121 at h
  refine V.iload dX11_mend_121 rfl ?_
  refine V.iload_n dX11_mend_123 rfl rfl ?_
  refine V.icmp_ge (tgt := 161) dX11_mend_124 (by decide) (fun c31 => ?_) (fun c31 => ?_)
  · have h := (if_pos c31).symm.trans h
    refine V.iload_n dX11_mend_161 rfl rfl ?_
    obtain rfl := Option.some.inj h
    exact V.ireturn dX11_mend_162
  · have h := (if_neg c31).symm.trans h
    refine V.aload_n dX11_mend_127 rfl rfl ?_
    obtain ⟨x32, h33, h⟩ := bnd h
    refine V.getF (gR_F h33) CF11 (Nat.le_of_ble_eq_true rfl) fl_RX11_78 dX11_mend_128 ?_
    refine V.iload dX11_mend_131 rfl ?_
    refine V.aload_n dX11_mend_133 rfl rfl ?_
    obtain ⟨x34, h35, h⟩ := bnd h
    refine V.getF (gR_F h35) CF11 (Nat.le_of_ble_eq_true rfl) fl_RX11_84 dX11_mend_134 ?_
    refine V.iload dX11_mend_137 rfl ?_
    obtain ⟨x36, h37, h⟩ := bnd h
    refine V.iald h37 dX11_mend_139 ?_
    obtain ⟨A38, h39, h⟩ := bnd h
    refine V.iast h39 dX11_mend_140 ?_
    refine V.aload_n dX11_mend_141 rfl rfl ?_
    obtain ⟨x40, h41, h⟩ := bnd h
    refine V.getF (gR_F h41) CF11 (Nat.le_of_ble_eq_true rfl) fl_RX11_81 dX11_mend_142 ?_
    refine V.iload dX11_mend_145 rfl ?_
    refine V.aload_n dX11_mend_147 rfl rfl ?_
    obtain ⟨x42, h43, h⟩ := bnd h
    refine V.getF (gR_F h43) CF11 (Nat.le_of_ble_eq_true rfl) fl_RX11_87 dX11_mend_148 ?_
    refine V.iload dX11_mend_151 rfl ?_
    obtain ⟨x44, h45, h⟩ := bnd h
    refine V.iald h45 dX11_mend_153 ?_
    obtain ⟨A46, h47, h⟩ := bnd h
    refine V.iast h47 dX11_mend_154 ?_
    refine V.iinc (ls' := [some (LR v0), none, some (LI v2), none, some (LI (v4 + (1 : Int32)))]) dX11_mend_155 rfl ki_1 (by decide) rfl rfl ?_
    refine V.goto (tgt := 121) dX11_mend_158 (by decide) ?_
    refine V.weak [true, false, true, false, true] ?_
    exact hk121 h
def l_X11_mend_121 (N : Nat) : Nat → LH → Option Nat → Int32 → Int32 → Option (Int32 × LH)
  | 0, _, _, _, _ => none
  | n + 1, A, v0, v2, v4 => b_X11_mend_121 N (l_X11_mend_121 N n) A v0 v2 v4
theorem wl_X11_mend_121 {g : GG} {n0 z0 : Nat} (N : Nat) : ∀ (n : Nat) {A : LH} {v0 : Option Nat} {v2 : Int32} {v4 : Int32} {p : Int32 × LH}, l_X11_mend_121 N n A v0 v2 v4 = some p → V g m_X11_mend 7 n0 z0 (some (LI p.1)) p.2 A 121 [some (LR v0), none, some (LI v2), none, some (LI v4)] []
  | 0, _, _, _, _, _, h => nomatch h
  | n + 1, _, _, _, _, _, h => wb_X11_mend_121 N (wl_X11_mend_121 N n) h
def b_X11_mend_89 (N : Nat) (k17 : LH → Option Nat → Int32 → Int32 → Option (Int32 × LH)) (A : LH) (v0 : Option Nat) (v1 : Int32) (v2 : Int32) (v3 : Int32) : Option (Int32 × LH) :=
  if v3 = 0 then k17 A v0 v1 (v2 + (1 : Int32)) else (pZ A v0 11 41 (1 : Int32)).bind fun A19 => (pF A19 v0 11 42 (LI v1)).bind fun A21 => (gR A21 v0 11 37).bind fun x23 => (aI A21 x23 0 v1).bind fun x25 => (pF A21 v0 11 43 (LI x25)).bind fun A27 => (pF A27 v0 11 44 (LI v2)).bind fun A29 => l_X11_mend_121 N N A29 v0 v2 (0 : Int32)
set_option maxRecDepth 4000 in
theorem wb_X11_mend_89 {g : GG} {n0 z0 : Nat} (N : Nat) {k17 : LH → Option Nat → Int32 → Int32 → Option (Int32 × LH)} {A : LH} {v0 : Option Nat} {v1 : Int32} {v2 : Int32} {v3 : Int32} {p : Int32 × LH} (hk17 : ∀ {A : LH} {v0 : Option Nat} {v1 : Int32} {v2 : Int32} {p : Int32 × LH}, k17 A v0 v1 v2 = some p → V g m_X11_mend 7 n0 z0 (some (LI p.1)) p.2 A 17 [some (LR v0), some (LI v1), some (LI v2)] []) (h : b_X11_mend_89 N k17 A v0 v1 v2 v3 = some p) : V g m_X11_mend 7 n0 z0 (some (LI p.1)) p.2 A 89 [some (LR v0), some (LI v1), some (LI v2), some (LI v3)] [] := by
  unfold b_X11_mend_89 at h
  refine V.iload_n dX11_mend_89 rfl rfl ?_
  refine V.if_eq (tgt := 163) dX11_mend_90 (by decide) (fun c18 => ?_) (fun c18 => ?_)
  · have h := (if_pos c18).symm.trans h
    refine V.iinc (ls' := [some (LR v0), some (LI v1), some (LI (v2 + (1 : Int32))), some (LI v3)]) dX11_mend_163 rfl ki_1 (by decide) rfl rfl ?_
    refine V.goto (tgt := 17) dX11_mend_166 (by decide) ?_
    refine V.weak [true, true, true] ?_
    exact hk17 h
  · have h := (if_neg c18).symm.trans h
    refine V.aload_n dX11_mend_93 rfl rfl ?_
    refine V.iconst dX11_mend_94 ki_1 ?_
    obtain ⟨A19, h20, h⟩ := bnd h
    refine V.putF (pZ_F h20).1 (pZ_n (pZ_F h20).2) (pZ_f (pZ_F h20).2) rfl CF11 (Nat.le_of_ble_eq_true rfl) fl_RX11_332 dX11_mend_95 ?_
    refine V.aload_n dX11_mend_98 rfl rfl ?_
    refine V.iload_n dX11_mend_99 rfl rfl ?_
    obtain ⟨A21, h22, h⟩ := bnd h
    refine V.putF h22 rfl rfl rfl CF11 (Nat.le_of_ble_eq_true rfl) fl_RX11_336 dX11_mend_100 ?_
    refine V.aload_n dX11_mend_103 rfl rfl ?_
    refine V.aload_n dX11_mend_104 rfl rfl ?_
    obtain ⟨x23, h24, h⟩ := bnd h
    refine V.getF (gR_F h24) CF11 (Nat.le_of_ble_eq_true rfl) fl_RX11_72 dX11_mend_105 ?_
    refine V.iload_n dX11_mend_108 rfl rfl ?_
    obtain ⟨x25, h26, h⟩ := bnd h
    refine V.iald h26 dX11_mend_109 ?_
    obtain ⟨A27, h28, h⟩ := bnd h
    refine V.putF h28 rfl rfl rfl CF11 (Nat.le_of_ble_eq_true rfl) fl_RX11_339 dX11_mend_110 ?_
    refine V.aload_n dX11_mend_113 rfl rfl ?_
    refine V.iload_n dX11_mend_114 rfl rfl ?_
    obtain ⟨A29, h30, h⟩ := bnd h
    refine V.putF h30 rfl rfl rfl CF11 (Nat.le_of_ble_eq_true rfl) fl_RX11_342 dX11_mend_115 ?_
    refine V.iconst dX11_mend_118 ki_0 ?_
    refine V.istore (ls' := [some (LR v0), some (LI v1), some (LI v2), some (LI v3), some (LI (0 : Int32))]) dX11_mend_119 (by decide) rfl rfl ?_
    refine V.weak [true, false, true, false, true] ?_
    exact wl_X11_mend_121 N N h
def b_X11_mend_66 (N : Nat) (k17 : LH → Option Nat → Int32 → Int32 → Option (Int32 × LH)) (k66 : LH → Option Nat → Int32 → Int32 → Int32 → Option (Int32 × LH)) (A : LH) (v0 : Option Nat) (v1 : Int32) (v2 : Int32) (v3 : Int32) : Option (Int32 × LH) :=
  if v3 = 0 then (f_X11_goesOn N A v0 v1 v2).bind fun p48 => if p48.1 = 0 then b_X11_mend_89 N k17 p48.2 v0 v1 v2 v3 else (f_X11_isMended N p48.2 v0 v1 v2).bind fun p52 => k66 p52.2 v0 v1 v2 p52.1 else b_X11_mend_89 N k17 A v0 v1 v2 v3
set_option maxRecDepth 4000 in
theorem wb_X11_mend_66 {g : GG} {n0 z0 : Nat} (N : Nat) {k17 : LH → Option Nat → Int32 → Int32 → Option (Int32 × LH)} {k66 : LH → Option Nat → Int32 → Int32 → Int32 → Option (Int32 × LH)} {A : LH} {v0 : Option Nat} {v1 : Int32} {v2 : Int32} {v3 : Int32} {p : Int32 × LH} (hk17 : ∀ {A : LH} {v0 : Option Nat} {v1 : Int32} {v2 : Int32} {p : Int32 × LH}, k17 A v0 v1 v2 = some p → V g m_X11_mend 7 n0 z0 (some (LI p.1)) p.2 A 17 [some (LR v0), some (LI v1), some (LI v2)] []) (hk66 : ∀ {A : LH} {v0 : Option Nat} {v1 : Int32} {v2 : Int32} {v3 : Int32} {p : Int32 × LH}, k66 A v0 v1 v2 v3 = some p → V g m_X11_mend 7 n0 z0 (some (LI p.1)) p.2 A 66 [some (LR v0), some (LI v1), some (LI v2), some (LI v3)] []) (h : b_X11_mend_66 N k17 k66 A v0 v1 v2 v3 = some p) : V g m_X11_mend 7 n0 z0 (some (LI p.1)) p.2 A 66 [some (LR v0), some (LI v1), some (LI v2), some (LI v3)] [] := by
  unfold b_X11_mend_66 at h
  refine V.iload_n dX11_mend_66 rfl rfl ?_
  refine V.if_ne (tgt := 89) dX11_mend_67 (by decide) (fun c17 => ?_) (fun c17 => ?_)
  · have h := (if_neg c17).symm.trans h
    refine V.weak [true, true, true, true] ?_
    exact wb_X11_mend_89 N hk17 h
  · have h := (if_pos c17).symm.trans h
    refine V.aload_n dX11_mend_70 rfl rfl ?_
    refine V.iload_n dX11_mend_71 rfl rfl ?_
    refine V.iload_n dX11_mend_72 rfl rfl ?_
    obtain ⟨p48, h49, h⟩ := bnd h
    have w50 := w_X11_goesOn (g := g) N h49
    refine V.callVi (args := [LI v1, LI v2]) (st := []) w50.1 (oo_X11_goesOn h49) mk_X11_goesOn w50.2 vc_11 ml_RX11_329 im_X11_goesOn se_X11_goesOn rfl (Nat.le_of_ble_eq_true rfl) (by decide) rfl (Nat.le_of_ble_eq_true rfl) dX11_mend_73 ?_
    refine V.if_eq (tgt := 89) dX11_mend_76 (by decide) (fun c51 => ?_) (fun c51 => ?_)
    · have h := (if_pos c51).symm.trans h
      refine V.weak [true, true, true, true] ?_
      exact wb_X11_mend_89 N hk17 h
    · have h := (if_neg c51).symm.trans h
      refine V.aload_n dX11_mend_79 rfl rfl ?_
      refine V.iload_n dX11_mend_80 rfl rfl ?_
      refine V.iload_n dX11_mend_81 rfl rfl ?_
      obtain ⟨p52, h53, h⟩ := bnd h
      have w54 := w_X11_isMended (g := g) N h53
      refine V.callVi (args := [LI v1, LI v2]) (st := []) w54.1 (oo_X11_isMended h53) mk_X11_isMended w54.2 vc_11 ml_RX11_326 im_X11_isMended se_X11_isMended rfl (Nat.le_of_ble_eq_true rfl) (by decide) rfl (Nat.le_of_ble_eq_true rfl) dX11_mend_82 ?_
      refine V.istore_n (ls' := [some (LR v0), some (LI v1), some (LI v2), some (LI p52.1)]) dX11_mend_85 rfl (by decide) rfl rfl ?_
      refine V.goto (tgt := 66) dX11_mend_86 (by decide) ?_
      refine V.weak [true, true, true, true] ?_
      exact hk66 h
def l_X11_mend_66 (N : Nat) (k17 : LH → Option Nat → Int32 → Int32 → Option (Int32 × LH)) : Nat → LH → Option Nat → Int32 → Int32 → Int32 → Option (Int32 × LH)
  | 0, _, _, _, _, _ => none
  | n + 1, A, v0, v1, v2, v3 => b_X11_mend_66 N k17 (l_X11_mend_66 N k17 n) A v0 v1 v2 v3
theorem wl_X11_mend_66 {g : GG} {n0 z0 : Nat} (N : Nat) {k17 : LH → Option Nat → Int32 → Int32 → Option (Int32 × LH)} (hk17 : ∀ {A : LH} {v0 : Option Nat} {v1 : Int32} {v2 : Int32} {p : Int32 × LH}, k17 A v0 v1 v2 = some p → V g m_X11_mend 7 n0 z0 (some (LI p.1)) p.2 A 17 [some (LR v0), some (LI v1), some (LI v2)] []) : ∀ (n : Nat) {A : LH} {v0 : Option Nat} {v1 : Int32} {v2 : Int32} {v3 : Int32} {p : Int32 × LH}, l_X11_mend_66 N k17 n A v0 v1 v2 v3 = some p → V g m_X11_mend 7 n0 z0 (some (LI p.1)) p.2 A 66 [some (LR v0), some (LI v1), some (LI v2), some (LI v3)] []
  | 0, _, _, _, _, _, _, h => nomatch h
  | n + 1, _, _, _, _, _, _, h => wb_X11_mend_66 N hk17 (wl_X11_mend_66 N hk17 n) h
def b_X11_mend_34 (N : Nat) (k17 : LH → Option Nat → Int32 → Int32 → Option (Int32 × LH)) (k34 : LH → Option Nat → Int32 → Int32 → Int32 → Option (Int32 × LH)) (A : LH) (v0 : Option Nat) (v1 : Int32) (v2 : Int32) (v3 : Int32) : Option (Int32 × LH) :=
  if v2 ≤ v3 then (f_X11_isMended N A v0 v1 v2).bind fun p14 => l_X11_mend_66 N k17 N p14.2 v0 v1 v2 p14.1 else (gR A v0 11 47).bind fun x55 => (sI A x55 0 v3 v3).bind fun A57 => (gR A57 v0 11 48).bind fun x59 => (sI A57 x59 0 v3 (0 : Int32)).bind fun A61 => k34 A61 v0 v1 v2 (v3 + (1 : Int32))
set_option maxRecDepth 4000 in
theorem wb_X11_mend_34 {g : GG} {n0 z0 : Nat} (N : Nat) {k17 : LH → Option Nat → Int32 → Int32 → Option (Int32 × LH)} {k34 : LH → Option Nat → Int32 → Int32 → Int32 → Option (Int32 × LH)} {A : LH} {v0 : Option Nat} {v1 : Int32} {v2 : Int32} {v3 : Int32} {p : Int32 × LH} (hk17 : ∀ {A : LH} {v0 : Option Nat} {v1 : Int32} {v2 : Int32} {p : Int32 × LH}, k17 A v0 v1 v2 = some p → V g m_X11_mend 7 n0 z0 (some (LI p.1)) p.2 A 17 [some (LR v0), some (LI v1), some (LI v2)] []) (hk34 : ∀ {A : LH} {v0 : Option Nat} {v1 : Int32} {v2 : Int32} {v3 : Int32} {p : Int32 × LH}, k34 A v0 v1 v2 v3 = some p → V g m_X11_mend 7 n0 z0 (some (LI p.1)) p.2 A 34 [some (LR v0), some (LI v1), some (LI v2), some (LI v3)] []) (h : b_X11_mend_34 N k17 k34 A v0 v1 v2 v3 = some p) : V g m_X11_mend 7 n0 z0 (some (LI p.1)) p.2 A 34 [some (LR v0), some (LI v1), some (LI v2), some (LI v3)] [] := by
  unfold b_X11_mend_34 at h
  refine V.iload_n dX11_mend_34 rfl rfl ?_
  refine V.iload_n dX11_mend_35 rfl rfl ?_
  refine V.icmp_ge (tgt := 59) dX11_mend_36 (by decide) (fun c13 => ?_) (fun c13 => ?_)
  · have h := (if_pos c13).symm.trans h
    refine V.aload_n dX11_mend_59 rfl rfl ?_
    refine V.iload_n dX11_mend_60 rfl rfl ?_
    refine V.iload_n dX11_mend_61 rfl rfl ?_
    obtain ⟨p14, h15, h⟩ := bnd h
    have w16 := w_X11_isMended (g := g) N h15
    refine V.callVi (args := [LI v1, LI v2]) (st := []) w16.1 (oo_X11_isMended h15) mk_X11_isMended w16.2 vc_11 ml_RX11_326 im_X11_isMended se_X11_isMended rfl (Nat.le_of_ble_eq_true rfl) (by decide) rfl (Nat.le_of_ble_eq_true rfl) dX11_mend_62 ?_
    refine V.istore_n (ls' := [some (LR v0), some (LI v1), some (LI v2), some (LI p14.1)]) dX11_mend_65 rfl (by decide) rfl rfl ?_
    refine V.weak [true, true, true, true] ?_
    exact wl_X11_mend_66 N hk17 N h
  · have h := (if_neg c13).symm.trans h
    refine V.aload_n dX11_mend_39 rfl rfl ?_
    obtain ⟨x55, h56, h⟩ := bnd h
    refine V.getF (gR_F h56) CF11 (Nat.le_of_ble_eq_true rfl) fl_RX11_84 dX11_mend_40 ?_
    refine V.iload_n dX11_mend_43 rfl rfl ?_
    refine V.iload_n dX11_mend_44 rfl rfl ?_
    obtain ⟨A57, h58, h⟩ := bnd h
    refine V.iast h58 dX11_mend_45 ?_
    refine V.aload_n dX11_mend_46 rfl rfl ?_
    obtain ⟨x59, h60, h⟩ := bnd h
    refine V.getF (gR_F h60) CF11 (Nat.le_of_ble_eq_true rfl) fl_RX11_87 dX11_mend_47 ?_
    refine V.iload_n dX11_mend_50 rfl rfl ?_
    refine V.iconst dX11_mend_51 ki_0 ?_
    obtain ⟨A61, h62, h⟩ := bnd h
    refine V.iast h62 dX11_mend_52 ?_
    refine V.iinc (ls' := [some (LR v0), some (LI v1), some (LI v2), some (LI (v3 + (1 : Int32)))]) dX11_mend_53 rfl ki_1 (by decide) rfl rfl ?_
    refine V.goto (tgt := 34) dX11_mend_56 (by decide) ?_
    refine V.weak [true, true, true, true] ?_
    exact hk34 h
def l_X11_mend_34 (N : Nat) (k17 : LH → Option Nat → Int32 → Int32 → Option (Int32 × LH)) : Nat → LH → Option Nat → Int32 → Int32 → Int32 → Option (Int32 × LH)
  | 0, _, _, _, _, _ => none
  | n + 1, A, v0, v1, v2, v3 => b_X11_mend_34 N k17 (l_X11_mend_34 N k17 n) A v0 v1 v2 v3
theorem wl_X11_mend_34 {g : GG} {n0 z0 : Nat} (N : Nat) {k17 : LH → Option Nat → Int32 → Int32 → Option (Int32 × LH)} (hk17 : ∀ {A : LH} {v0 : Option Nat} {v1 : Int32} {v2 : Int32} {p : Int32 × LH}, k17 A v0 v1 v2 = some p → V g m_X11_mend 7 n0 z0 (some (LI p.1)) p.2 A 17 [some (LR v0), some (LI v1), some (LI v2)] []) : ∀ (n : Nat) {A : LH} {v0 : Option Nat} {v1 : Int32} {v2 : Int32} {v3 : Int32} {p : Int32 × LH}, l_X11_mend_34 N k17 n A v0 v1 v2 v3 = some p → V g m_X11_mend 7 n0 z0 (some (LI p.1)) p.2 A 34 [some (LR v0), some (LI v1), some (LI v2), some (LI v3)] []
  | 0, _, _, _, _, _, _, h => nomatch h
  | n + 1, _, _, _, _, _, _, h => wb_X11_mend_34 N hk17 (wl_X11_mend_34 N hk17 n) h
def b_X11_mend_17 (N : Nat) (k17 : LH → Option Nat → Int32 → Int32 → Option (Int32 × LH)) (A : LH) (v0 : Option Nat) (v1 : Int32) (v2 : Int32) : Option (Int32 × LH) :=
  if (3 : Int32) < v2 then some ((-1 : Int32), A) else (gR A v0 11 14).bind fun x8 => (aI A x8 0 v1).bind fun x10 => if x10 < v2 then some ((-1 : Int32), A) else l_X11_mend_34 N k17 N A v0 v1 v2 (0 : Int32)
set_option maxRecDepth 4000 in
theorem wb_X11_mend_17 {g : GG} {n0 z0 : Nat} (N : Nat) {k17 : LH → Option Nat → Int32 → Int32 → Option (Int32 × LH)} {A : LH} {v0 : Option Nat} {v1 : Int32} {v2 : Int32} {p : Int32 × LH} (hk17 : ∀ {A : LH} {v0 : Option Nat} {v1 : Int32} {v2 : Int32} {p : Int32 × LH}, k17 A v0 v1 v2 = some p → V g m_X11_mend 7 n0 z0 (some (LI p.1)) p.2 A 17 [some (LR v0), some (LI v1), some (LI v2)] []) (h : b_X11_mend_17 N k17 A v0 v1 v2 = some p) : V g m_X11_mend 7 n0 z0 (some (LI p.1)) p.2 A 17 [some (LR v0), some (LI v1), some (LI v2)] [] := by
  unfold b_X11_mend_17 at h
  refine V.iload_n dX11_mend_17 rfl rfl ?_
  refine V.iconst dX11_mend_18 ki_3 ?_
  refine V.icmp_gt (tgt := 169) dX11_mend_19 (by decide) (fun c7 => ?_) (fun c7 => ?_)
  · have h := (if_pos c7).symm.trans h
    refine V.iconst dX11_mend_169 ki_m1 ?_
    obtain rfl := Option.some.inj h
    exact V.ireturn dX11_mend_170
  · have h := (if_neg c7).symm.trans h
    refine V.iload_n dX11_mend_22 rfl rfl ?_
    refine V.aload_n dX11_mend_23 rfl rfl ?_
    obtain ⟨x8, h9, h⟩ := bnd h
    refine V.getF (gR_F h9) CF11 (Nat.le_of_ble_eq_true rfl) fl_RX11_47 dX11_mend_24 ?_
    refine V.iload_n dX11_mend_27 rfl rfl ?_
    obtain ⟨x10, h11, h⟩ := bnd h
    refine V.iald h11 dX11_mend_28 ?_
    refine V.icmp_gt (tgt := 169) dX11_mend_29 (by decide) (fun c12 => ?_) (fun c12 => ?_)
    · have h := (if_pos c12).symm.trans h
      refine V.iconst dX11_mend_169 ki_m1 ?_
      obtain rfl := Option.some.inj h
      exact V.ireturn dX11_mend_170
    · have h := (if_neg c12).symm.trans h
      refine V.iconst dX11_mend_32 ki_0 ?_
      refine V.istore_n (ls' := [some (LR v0), some (LI v1), some (LI v2), some (LI (0 : Int32))]) dX11_mend_33 rfl (by decide) rfl rfl ?_
      refine V.weak [true, true, true, true] ?_
      exact wl_X11_mend_34 N hk17 N h
def l_X11_mend_17 (N : Nat) : Nat → LH → Option Nat → Int32 → Int32 → Option (Int32 × LH)
  | 0, _, _, _, _ => none
  | n + 1, A, v0, v1, v2 => b_X11_mend_17 N (l_X11_mend_17 N n) A v0 v1 v2
theorem wl_X11_mend_17 {g : GG} {n0 z0 : Nat} (N : Nat) : ∀ (n : Nat) {A : LH} {v0 : Option Nat} {v1 : Int32} {v2 : Int32} {p : Int32 × LH}, l_X11_mend_17 N n A v0 v1 v2 = some p → V g m_X11_mend 7 n0 z0 (some (LI p.1)) p.2 A 17 [some (LR v0), some (LI v1), some (LI v2)] []
  | 0, _, _, _, _, _, h => nomatch h
  | n + 1, _, _, _, _, _, h => wb_X11_mend_17 N (wl_X11_mend_17 N n) h
def b_X11_mend (N : Nat) (A : LH) (v0 : Option Nat) (v1 : Int32) : Option (Int32 × LH) :=
  (pF A v0 11 0 (LI (0 : Int32))).bind fun A1 => (f_X11_isSlot A1 v0 v1).bind fun p3 => if p3 = 0 then some ((-1 : Int32), A1) else l_X11_mend_17 N N A1 v0 v1 (0 : Int32)
set_option maxRecDepth 4000 in
theorem wb_X11_mend {g : GG} {n0 z0 : Nat} (N : Nat) {A : LH} {v0 : Option Nat} {v1 : Int32} {p : Int32 × LH} (h : b_X11_mend N A v0 v1 = some p) : V g m_X11_mend 7 n0 z0 (some (LI p.1)) p.2 A 0 [some (LR v0), some (LI v1)] [] := by
  unfold b_X11_mend at h
  refine V.aload_n dX11_mend_0 rfl rfl ?_
  refine V.iconst dX11_mend_1 ki_0 ?_
  obtain ⟨A1, h2, h⟩ := bnd h
  refine V.putF h2 rfl rfl rfl CF11 (Nat.le_of_ble_eq_true rfl) fl_RX11_94 dX11_mend_2 ?_
  refine V.aload_n dX11_mend_5 rfl rfl ?_
  refine V.iload_n dX11_mend_6 rfl rfl ?_
  obtain ⟨p3, h4, h⟩ := bnd h
  have w5 := w_X11_isSlot (g := g) h4
  refine V.callVi (args := [LI v1]) (st := []) w5.1 (oo_X11_isSlot h4) mk_X11_isSlot w5.2 vc_11 ml_RX11_259 im_X11_isSlot se_X11_isSlot rfl (Nat.le_of_ble_eq_true rfl) (by decide) rfl (Nat.le_of_ble_eq_true rfl) dX11_mend_7 ?_
  refine V.if_ne (tgt := 15) dX11_mend_10 (by decide) (fun c6 => ?_) (fun c6 => ?_)
  · have h := (if_neg c6).symm.trans h
    refine V.iconst dX11_mend_15 ki_0 ?_
    refine V.istore_n (ls' := [some (LR v0), some (LI v1), some (LI (0 : Int32))]) dX11_mend_16 rfl (by decide) rfl rfl ?_
    refine V.weak [true, true, true] ?_
    exact wl_X11_mend_17 N N h
  · have h := (if_pos c6).symm.trans h
    refine V.iconst dX11_mend_13 ki_m1 ?_
    obtain rfl := Option.some.inj h
    exact V.ireturn dX11_mend_14
def f_X11_mend (N : Nat) (A : LH) (v0 : Option Nat) (v1 : Int32) : Option (Int32 × LH) := if isO A v0 11 = true then b_X11_mend N A v0 v1 else none
theorem w_X11_mend {g : GG} (N : Nat) {A : LH} {v0 : Option Nat} {v1 : Int32} {p : Int32 × LH} (h : f_X11_mend N A v0 v1 = some p) : Ct g m_X11_mend 7 [LR v0, LI v1] A (some (LI p.1)) p.2 := by
  unfold f_X11_mend at h
  obtain ⟨ho, h⟩ := ifN h
  exact ⟨wb_X11_mend N h, rfl⟩
theorem oo_X11_mend {N : Nat} {A : LH} {v0 : Option Nat} {v1 : Int32} {p : Int32 × LH} (h : f_X11_mend N A v0 v1 = some p) : isO A v0 11 = true := by unfold f_X11_mend at h; exact (ifN h).1
def b_X11_change (A : LH) (v0 : Option Nat) (v1 : Int32) (v2 : Int32) : Option (Int32 × LH) :=
  (pF A v0 11 0 (LI (0 : Int32))).bind fun A1 => (gI A1 v0 11 41).bind fun x3 => if x3 = 0 then some ((-1 : Int32), A1) else (gI A1 v0 11 44).bind fun x6 => (f_X11_in v1 (0 : Int32) (x6 - (1 : Int32))).bind fun p8 => if p8 = 0 then some ((-1 : Int32), A1) else if v2 = 0 then (gR A1 v0 11 45).bind fun x18 => (aI A1 x18 0 v1).bind fun x20 => some (x20, A1) else if v2 = (1 : Int32) then (gR A1 v0 11 46).bind fun x14 => (aI A1 x14 0 v1).bind fun x16 => some (x16, A1) else some ((-1 : Int32), A1)
set_option maxRecDepth 4000 in
theorem wb_X11_change {g : GG} {n0 z0 : Nat} {A : LH} {v0 : Option Nat} {v1 : Int32} {v2 : Int32} {p : Int32 × LH} (h : b_X11_change A v0 v1 v2 = some p) : V g m_X11_change 1 n0 z0 (some (LI p.1)) p.2 A 0 [some (LR v0), some (LI v1), some (LI v2)] [] := by
  unfold b_X11_change at h
  refine V.aload_n dX11_change_0 rfl rfl ?_
  refine V.iconst dX11_change_1 ki_0 ?_
  obtain ⟨A1, h2, h⟩ := bnd h
  refine V.putF h2 rfl rfl rfl CF11 (Nat.le_of_ble_eq_true rfl) fl_RX11_94 dX11_change_2 ?_
  refine V.aload_n dX11_change_5 rfl rfl ?_
  obtain ⟨x3, h4, h⟩ := bnd h
  refine V.getF (gI_F h4) CF11 (Nat.le_of_ble_eq_true rfl) fl_RX11_332 dX11_change_6 ?_
  refine V.if_eq (tgt := 26) dX11_change_9 (by decide) (fun c5 => ?_) (fun c5 => ?_)
  · have h := (if_pos c5).symm.trans h
    refine V.iconst dX11_change_26 ki_m1 ?_
    refine V.goto (tgt := 58) dX11_change_27 (by decide) ?_
    obtain rfl := Option.some.inj h
    exact V.ireturn dX11_change_58
  · have h := (if_neg c5).symm.trans h
    refine V.iload_n dX11_change_12 rfl rfl ?_
    refine V.iconst dX11_change_13 ki_0 ?_
    refine V.aload_n dX11_change_14 rfl rfl ?_
    obtain ⟨x6, h7, h⟩ := bnd h
    refine V.getF (gI_F h7) CF11 (Nat.le_of_ble_eq_true rfl) fl_RX11_342 dX11_change_15 ?_
    refine V.iconst dX11_change_18 ki_1 ?_
    refine V.isub dX11_change_19 ?_
    obtain ⟨p8, h9, h⟩ := bnd h
    have w10 := w_X11_in (g := g) (A := A1) h9
    refine V.callSi (args := [LI v1, LI (0 : Int32), LI (x6 - (1 : Int32))]) (st := []) w10.1 mk_X11_in w10.2 ml_RX11_108 sm_X11_in rfl (Nat.le_of_ble_eq_true rfl) (by decide) rfl (Nat.le_of_ble_eq_true rfl) dX11_change_20 ?_
    refine V.if_ne (tgt := 30) dX11_change_23 (by decide) (fun c11 => ?_) (fun c11 => ?_)
    · have h := (if_neg c11).symm.trans h
      refine V.iload_n dX11_change_30 rfl rfl ?_
      refine V.if_ne (tgt := 43) dX11_change_31 (by decide) (fun c12 => ?_) (fun c12 => ?_)
      · have h := (if_neg c12).symm.trans h
        refine V.iload_n dX11_change_43 rfl rfl ?_
        refine V.iconst dX11_change_44 ki_1 ?_
        refine V.icmp_ne (tgt := 57) dX11_change_45 (by decide) (fun c13 => ?_) (fun c13 => ?_)
        · have h := (if_neg c13).symm.trans h
          refine V.iconst dX11_change_57 ki_m1 ?_
          obtain rfl := Option.some.inj h
          exact V.ireturn dX11_change_58
        · have h := (if_pos c13).symm.trans h
          refine V.aload_n dX11_change_48 rfl rfl ?_
          obtain ⟨x14, h15, h⟩ := bnd h
          refine V.getF (gR_F h15) CF11 (Nat.le_of_ble_eq_true rfl) fl_RX11_81 dX11_change_49 ?_
          refine V.iload_n dX11_change_52 rfl rfl ?_
          obtain ⟨x16, h17, h⟩ := bnd h
          refine V.iald h17 dX11_change_53 ?_
          refine V.goto (tgt := 58) dX11_change_54 (by decide) ?_
          obtain rfl := Option.some.inj h
          exact V.ireturn dX11_change_58
      · have h := (if_pos c12).symm.trans h
        refine V.aload_n dX11_change_34 rfl rfl ?_
        obtain ⟨x18, h19, h⟩ := bnd h
        refine V.getF (gR_F h19) CF11 (Nat.le_of_ble_eq_true rfl) fl_RX11_78 dX11_change_35 ?_
        refine V.iload_n dX11_change_38 rfl rfl ?_
        obtain ⟨x20, h21, h⟩ := bnd h
        refine V.iald h21 dX11_change_39 ?_
        refine V.goto (tgt := 58) dX11_change_40 (by decide) ?_
        obtain rfl := Option.some.inj h
        exact V.ireturn dX11_change_58
    · have h := (if_pos c11).symm.trans h
      refine V.iconst dX11_change_26 ki_m1 ?_
      refine V.goto (tgt := 58) dX11_change_27 (by decide) ?_
      obtain rfl := Option.some.inj h
      exact V.ireturn dX11_change_58
def f_X11_change (A : LH) (v0 : Option Nat) (v1 : Int32) (v2 : Int32) : Option (Int32 × LH) := if isO A v0 11 = true then b_X11_change A v0 v1 v2 else none
theorem w_X11_change {g : GG} {A : LH} {v0 : Option Nat} {v1 : Int32} {v2 : Int32} {p : Int32 × LH} (h : f_X11_change A v0 v1 v2 = some p) : Ct g m_X11_change 1 [LR v0, LI v1, LI v2] A (some (LI p.1)) p.2 := by
  unfold f_X11_change at h
  obtain ⟨ho, h⟩ := ifN h
  exact ⟨wb_X11_change h, rfl⟩
theorem oo_X11_change {A : LH} {v0 : Option Nat} {v1 : Int32} {v2 : Int32} {p : Int32 × LH} (h : f_X11_change A v0 v1 v2 = some p) : isO A v0 11 = true := by unfold f_X11_change at h; exact (ifN h).1
def b_X11_apply_101 (N : Nat) (k37 : LH → Option Nat → Int32 → Option (Int32 × LH)) (k101 : LH → Option Nat → Int32 → Int32 → Option (Int32 × LH)) (A : LH) (v0 : Option Nat) (v1 : Int32) (v3 : Int32) : Option (Int32 × LH) :=
  (gI A v0 11 42).bind fun x55 => (gR A v0 11 14).bind fun x57 => (gI A v0 11 42).bind fun x59 => (aI A x57 0 x59).bind fun x61 => if ((8 : Int32) * (((12 : Int32) * x55) + x61)) ≤ v3 then k37 A v0 (v1 + (-1 : Int32)) else (gR A v0 11 15).bind fun x64 => (gR A v0 11 15).bind fun x66 => (aI A x66 0 (v3 + (8 : Int32))).bind fun x68 => (sI A x64 0 v3 x68).bind fun A70 => k101 A70 v0 v1 (v3 + (1 : Int32))
set_option maxRecDepth 4000 in
theorem wb_X11_apply_101 {g : GG} {n0 z0 : Nat} (N : Nat) {k37 : LH → Option Nat → Int32 → Option (Int32 × LH)} {k101 : LH → Option Nat → Int32 → Int32 → Option (Int32 × LH)} {A : LH} {v0 : Option Nat} {v1 : Int32} {v3 : Int32} {p : Int32 × LH} (hk37 : ∀ {A : LH} {v0 : Option Nat} {v1 : Int32} {p : Int32 × LH}, k37 A v0 v1 = some p → V g m_X11_apply 0 n0 z0 (some (LI p.1)) p.2 A 37 [some (LR v0), some (LI v1)] []) (hk101 : ∀ {A : LH} {v0 : Option Nat} {v1 : Int32} {v3 : Int32} {p : Int32 × LH}, k101 A v0 v1 v3 = some p → V g m_X11_apply 0 n0 z0 (some (LI p.1)) p.2 A 101 [some (LR v0), some (LI v1), none, some (LI v3)] []) (h : b_X11_apply_101 N k37 k101 A v0 v1 v3 = some p) : V g m_X11_apply 0 n0 z0 (some (LI p.1)) p.2 A 101 [some (LR v0), some (LI v1), none, some (LI v3)] [] := by
  unfold b_X11_apply_101 at h
  refine V.iload_n dX11_apply_101 rfl rfl ?_
  refine V.bipush dX11_apply_102 kb_8 ?_
  refine V.bipush dX11_apply_104 kb_12 ?_
  refine V.aload_n dX11_apply_106 rfl rfl ?_
  obtain ⟨x55, h56, h⟩ := bnd h
  refine V.getF (gI_F h56) CF11 (Nat.le_of_ble_eq_true rfl) fl_RX11_336 dX11_apply_107 ?_
  refine V.imul dX11_apply_110 ?_
  refine V.aload_n dX11_apply_111 rfl rfl ?_
  obtain ⟨x57, h58, h⟩ := bnd h
  refine V.getF (gR_F h58) CF11 (Nat.le_of_ble_eq_true rfl) fl_RX11_47 dX11_apply_112 ?_
  refine V.aload_n dX11_apply_115 rfl rfl ?_
  obtain ⟨x59, h60, h⟩ := bnd h
  refine V.getF (gI_F h60) CF11 (Nat.le_of_ble_eq_true rfl) fl_RX11_336 dX11_apply_116 ?_
  obtain ⟨x61, h62, h⟩ := bnd h
  refine V.iald h62 dX11_apply_119 ?_
  refine V.iadd dX11_apply_120 ?_
  refine V.imul dX11_apply_121 ?_
  refine V.icmp_ge (tgt := 146) dX11_apply_122 (by decide) (fun c63 => ?_) (fun c63 => ?_)
  · have h := (if_pos c63).symm.trans h
    refine V.iinc (ls' := [some (LR v0), some (LI (v1 + (-1 : Int32))), none, some (LI v3)]) dX11_apply_146 rfl ki_m1 (by decide) rfl rfl ?_
    refine V.goto (tgt := 37) dX11_apply_149 (by decide) ?_
    refine V.weak [true, true] ?_
    exact hk37 h
  · have h := (if_neg c63).symm.trans h
    refine V.aload_n dX11_apply_125 rfl rfl ?_
    obtain ⟨x64, h65, h⟩ := bnd h
    refine V.getF (gR_F h65) CF11 (Nat.le_of_ble_eq_true rfl) fl_RX11_50 dX11_apply_126 ?_
    refine V.iload_n dX11_apply_129 rfl rfl ?_
    refine V.aload_n dX11_apply_130 rfl rfl ?_
    obtain ⟨x66, h67, h⟩ := bnd h
    refine V.getF (gR_F h67) CF11 (Nat.le_of_ble_eq_true rfl) fl_RX11_50 dX11_apply_131 ?_
    refine V.iload_n dX11_apply_134 rfl rfl ?_
    refine V.bipush dX11_apply_135 kb_8 ?_
    refine V.iadd dX11_apply_137 ?_
    obtain ⟨x68, h69, h⟩ := bnd h
    refine V.iald h69 dX11_apply_138 ?_
    obtain ⟨A70, h71, h⟩ := bnd h
    refine V.iast h71 dX11_apply_139 ?_
    refine V.iinc (ls' := [some (LR v0), some (LI v1), none, some (LI (v3 + (1 : Int32)))]) dX11_apply_140 rfl ki_1 (by decide) rfl rfl ?_
    refine V.goto (tgt := 101) dX11_apply_143 (by decide) ?_
    refine V.weak [true, true, false, true] ?_
    exact hk101 h
def l_X11_apply_101 (N : Nat) (k37 : LH → Option Nat → Int32 → Option (Int32 × LH)) : Nat → LH → Option Nat → Int32 → Int32 → Option (Int32 × LH)
  | 0, _, _, _, _ => none
  | n + 1, A, v0, v1, v3 => b_X11_apply_101 N k37 (l_X11_apply_101 N k37 n) A v0 v1 v3
theorem wl_X11_apply_101 {g : GG} {n0 z0 : Nat} (N : Nat) {k37 : LH → Option Nat → Int32 → Option (Int32 × LH)} (hk37 : ∀ {A : LH} {v0 : Option Nat} {v1 : Int32} {p : Int32 × LH}, k37 A v0 v1 = some p → V g m_X11_apply 0 n0 z0 (some (LI p.1)) p.2 A 37 [some (LR v0), some (LI v1)] []) : ∀ (n : Nat) {A : LH} {v0 : Option Nat} {v1 : Int32} {v3 : Int32} {p : Int32 × LH}, l_X11_apply_101 N k37 n A v0 v1 v3 = some p → V g m_X11_apply 0 n0 z0 (some (LI p.1)) p.2 A 101 [some (LR v0), some (LI v1), none, some (LI v3)] []
  | 0, _, _, _, _, _, h => nomatch h
  | n + 1, _, _, _, _, _, h => wb_X11_apply_101 N hk37 (wl_X11_apply_101 N hk37 n) h
def b_X11_apply_37 (N : Nat) (k37 : LH → Option Nat → Int32 → Option (Int32 × LH)) (A : LH) (v0 : Option Nat) (v1 : Int32) : Option (Int32 × LH) :=
  if v1 < 0 then (gI A v0 11 36).bind fun x18 => (pF A v0 11 36 (LI (x18 + (1 : Int32)))).bind fun A20 => (gR A20 v0 11 37).bind fun x22 => (gI A20 v0 11 42).bind fun x24 => (gI A20 v0 11 36).bind fun x26 => (sI A20 x22 0 x24 x26).bind fun A28 => (gR A28 v0 11 14).bind fun x30 => (gI A28 v0 11 42).bind fun x32 => (aI A28 x30 0 x32).bind fun x34 => some (x34, A28) else (gI A v0 11 42).bind fun x36 => (gR A v0 11 45).bind fun x38 => (aI A x38 0 v1).bind fun x40 => (gR A v0 11 46).bind fun x42 => (aI A x42 0 v1).bind fun x44 => if x44 = (1 : Int32) then (gR A v0 11 15).bind fun x72 => (gR A v0 11 15).bind fun x74 => (aI A x74 0 ((8 : Int32) * (((12 : Int32) * x36) + x40))).bind fun x76 => (sI A x72 0 ((8 : Int32) * (((12 : Int32) * x36) + x40)) ((1 : Int32) - x76)).bind fun A78 => k37 A78 v0 (v1 + (-1 : Int32)) else (gR A v0 11 14).bind fun x47 => (gI A v0 11 42).bind fun x49 => (aI A x47 0 x49).bind fun x51 => (sI A x47 0 x49 (x51 - (1 : Int32))).bind fun A53 => l_X11_apply_101 N k37 N A53 v0 v1 ((8 : Int32) * (((12 : Int32) * x36) + x40))
set_option maxRecDepth 4000 in
theorem wb_X11_apply_37 {g : GG} {n0 z0 : Nat} (N : Nat) {k37 : LH → Option Nat → Int32 → Option (Int32 × LH)} {A : LH} {v0 : Option Nat} {v1 : Int32} {p : Int32 × LH} (hk37 : ∀ {A : LH} {v0 : Option Nat} {v1 : Int32} {p : Int32 × LH}, k37 A v0 v1 = some p → V g m_X11_apply 0 n0 z0 (some (LI p.1)) p.2 A 37 [some (LR v0), some (LI v1)] []) (h : b_X11_apply_37 N k37 A v0 v1 = some p) : V g m_X11_apply 0 n0 z0 (some (LI p.1)) p.2 A 37 [some (LR v0), some (LI v1)] [] := by
  unfold b_X11_apply_37 at h
  refine V.iload_n dX11_apply_37 rfl rfl ?_
  refine V.if_lt (tgt := 152) dX11_apply_38 (by decide) (fun c17 => ?_) (fun c17 => ?_)
  · have h := (if_pos c17).symm.trans h
    refine V.aload_n dX11_apply_152 rfl rfl ?_
    refine V.dup dX11_apply_153 rfl ?_
    obtain ⟨x18, h19, h⟩ := bnd h
    refine V.getF (gI_F h19) CF11 (Nat.le_of_ble_eq_true rfl) fl_RX11_268 dX11_apply_154 ?_
    refine V.iconst dX11_apply_157 ki_1 ?_
    refine V.iadd dX11_apply_158 ?_
    obtain ⟨A20, h21, h⟩ := bnd h
    refine V.putF h21 rfl rfl rfl CF11 (Nat.le_of_ble_eq_true rfl) fl_RX11_268 dX11_apply_159 ?_
    refine V.aload_n dX11_apply_162 rfl rfl ?_
    obtain ⟨x22, h23, h⟩ := bnd h
    refine V.getF (gR_F h23) CF11 (Nat.le_of_ble_eq_true rfl) fl_RX11_72 dX11_apply_163 ?_
    refine V.aload_n dX11_apply_166 rfl rfl ?_
    obtain ⟨x24, h25, h⟩ := bnd h
    refine V.getF (gI_F h25) CF11 (Nat.le_of_ble_eq_true rfl) fl_RX11_336 dX11_apply_167 ?_
    refine V.aload_n dX11_apply_170 rfl rfl ?_
    obtain ⟨x26, h27, h⟩ := bnd h
    refine V.getF (gI_F h27) CF11 (Nat.le_of_ble_eq_true rfl) fl_RX11_268 dX11_apply_171 ?_
    obtain ⟨A28, h29, h⟩ := bnd h
    refine V.iast h29 dX11_apply_174 ?_
    refine V.aload_n dX11_apply_175 rfl rfl ?_
    obtain ⟨x30, h31, h⟩ := bnd h
    refine V.getF (gR_F h31) CF11 (Nat.le_of_ble_eq_true rfl) fl_RX11_47 dX11_apply_176 ?_
    refine V.aload_n dX11_apply_179 rfl rfl ?_
    obtain ⟨x32, h33, h⟩ := bnd h
    refine V.getF (gI_F h33) CF11 (Nat.le_of_ble_eq_true rfl) fl_RX11_336 dX11_apply_180 ?_
    obtain ⟨x34, h35, h⟩ := bnd h
    refine V.iald h35 dX11_apply_183 ?_
    obtain rfl := Option.some.inj h
    exact V.ireturn dX11_apply_184
  · have h := (if_neg c17).symm.trans h
    refine V.bipush dX11_apply_41 kb_8 ?_
    refine V.bipush dX11_apply_43 kb_12 ?_
    refine V.aload_n dX11_apply_45 rfl rfl ?_
    obtain ⟨x36, h37, h⟩ := bnd h
    refine V.getF (gI_F h37) CF11 (Nat.le_of_ble_eq_true rfl) fl_RX11_336 dX11_apply_46 ?_
    refine V.imul dX11_apply_49 ?_
    refine V.aload_n dX11_apply_50 rfl rfl ?_
    obtain ⟨x38, h39, h⟩ := bnd h
    refine V.getF (gR_F h39) CF11 (Nat.le_of_ble_eq_true rfl) fl_RX11_78 dX11_apply_51 ?_
    refine V.iload_n dX11_apply_54 rfl rfl ?_
    obtain ⟨x40, h41, h⟩ := bnd h
    refine V.iald h41 dX11_apply_55 ?_
    refine V.iadd dX11_apply_56 ?_
    refine V.imul dX11_apply_57 ?_
    refine V.istore_n (ls' := [some (LR v0), some (LI v1), some (LI ((8 : Int32) * (((12 : Int32) * x36) + x40)))]) dX11_apply_58 rfl (by decide) rfl rfl ?_
    refine V.aload_n dX11_apply_59 rfl rfl ?_
    obtain ⟨x42, h43, h⟩ := bnd h
    refine V.getF (gR_F h43) CF11 (Nat.le_of_ble_eq_true rfl) fl_RX11_81 dX11_apply_60 ?_
    refine V.iload_n dX11_apply_63 rfl rfl ?_
    obtain ⟨x44, h45, h⟩ := bnd h
    refine V.iald h45 dX11_apply_64 ?_
    refine V.iconst dX11_apply_65 ki_1 ?_
    refine V.icmp_ne (tgt := 86) dX11_apply_66 (by decide) (fun c46 => ?_) (fun c46 => ?_)
    · have h := (if_neg c46).symm.trans h
      refine V.aload_n dX11_apply_86 rfl rfl ?_
      obtain ⟨x47, h48, h⟩ := bnd h
      refine V.getF (gR_F h48) CF11 (Nat.le_of_ble_eq_true rfl) fl_RX11_47 dX11_apply_87 ?_
      refine V.aload_n dX11_apply_90 rfl rfl ?_
      obtain ⟨x49, h50, h⟩ := bnd h
      refine V.getF (gI_F h50) CF11 (Nat.le_of_ble_eq_true rfl) fl_RX11_336 dX11_apply_91 ?_
      refine V.dup2 dX11_apply_94 rfl rfl ?_
      obtain ⟨x51, h52, h⟩ := bnd h
      refine V.iald h52 dX11_apply_95 ?_
      refine V.iconst dX11_apply_96 ki_1 ?_
      refine V.isub dX11_apply_97 ?_
      obtain ⟨A53, h54, h⟩ := bnd h
      refine V.iast h54 dX11_apply_98 ?_
      refine V.iload_n dX11_apply_99 rfl rfl ?_
      refine V.istore_n (ls' := [some (LR v0), some (LI v1), some (LI ((8 : Int32) * (((12 : Int32) * x36) + x40))), some (LI ((8 : Int32) * (((12 : Int32) * x36) + x40)))]) dX11_apply_100 rfl (by decide) rfl rfl ?_
      refine V.weak [true, true, false, true] ?_
      exact wl_X11_apply_101 N hk37 N h
    · have h := (if_pos c46).symm.trans h
      refine V.aload_n dX11_apply_69 rfl rfl ?_
      obtain ⟨x72, h73, h⟩ := bnd h
      refine V.getF (gR_F h73) CF11 (Nat.le_of_ble_eq_true rfl) fl_RX11_50 dX11_apply_70 ?_
      refine V.iload_n dX11_apply_73 rfl rfl ?_
      refine V.iconst dX11_apply_74 ki_1 ?_
      refine V.aload_n dX11_apply_75 rfl rfl ?_
      obtain ⟨x74, h75, h⟩ := bnd h
      refine V.getF (gR_F h75) CF11 (Nat.le_of_ble_eq_true rfl) fl_RX11_50 dX11_apply_76 ?_
      refine V.iload_n dX11_apply_79 rfl rfl ?_
      obtain ⟨x76, h77, h⟩ := bnd h
      refine V.iald h77 dX11_apply_80 ?_
      refine V.isub dX11_apply_81 ?_
      obtain ⟨A78, h79, h⟩ := bnd h
      refine V.iast h79 dX11_apply_82 ?_
      refine V.goto (tgt := 146) dX11_apply_83 (by decide) ?_
      refine V.iinc (ls' := [some (LR v0), some (LI (v1 + (-1 : Int32))), some (LI ((8 : Int32) * (((12 : Int32) * x36) + x40)))]) dX11_apply_146 rfl ki_m1 (by decide) rfl rfl ?_
      refine V.goto (tgt := 37) dX11_apply_149 (by decide) ?_
      refine V.weak [true, true] ?_
      exact hk37 h
def l_X11_apply_37 (N : Nat) : Nat → LH → Option Nat → Int32 → Option (Int32 × LH)
  | 0, _, _, _ => none
  | n + 1, A, v0, v1 => b_X11_apply_37 N (l_X11_apply_37 N n) A v0 v1
theorem wl_X11_apply_37 {g : GG} {n0 z0 : Nat} (N : Nat) : ∀ (n : Nat) {A : LH} {v0 : Option Nat} {v1 : Int32} {p : Int32 × LH}, l_X11_apply_37 N n A v0 v1 = some p → V g m_X11_apply 0 n0 z0 (some (LI p.1)) p.2 A 37 [some (LR v0), some (LI v1)] []
  | 0, _, _, _, _, h => nomatch h
  | n + 1, _, _, _, _, h => wb_X11_apply_37 N (wl_X11_apply_37 N n) h
def b_X11_apply (N : Nat) (A : LH) (v0 : Option Nat) : Option (Int32 × LH) :=
  (pF A v0 11 0 (LI (0 : Int32))).bind fun A1 => (gI A1 v0 11 41).bind fun x3 => if x3 = 0 then some ((-1 : Int32), A1) else (gR A1 v0 11 37).bind fun x6 => (gI A1 v0 11 42).bind fun x8 => (aI A1 x6 0 x8).bind fun x10 => (gI A1 v0 11 43).bind fun x12 => if x10 = x12 then (gI A1 v0 11 44).bind fun x15 => l_X11_apply_37 N N A1 v0 (x15 - (1 : Int32)) else some ((-1 : Int32), A1)
set_option maxRecDepth 4000 in
theorem wb_X11_apply {g : GG} {n0 z0 : Nat} (N : Nat) {A : LH} {v0 : Option Nat} {p : Int32 × LH} (h : b_X11_apply N A v0 = some p) : V g m_X11_apply 0 n0 z0 (some (LI p.1)) p.2 A 0 [some (LR v0)] [] := by
  unfold b_X11_apply at h
  refine V.aload_n dX11_apply_0 rfl rfl ?_
  refine V.iconst dX11_apply_1 ki_0 ?_
  obtain ⟨A1, h2, h⟩ := bnd h
  refine V.putF h2 rfl rfl rfl CF11 (Nat.le_of_ble_eq_true rfl) fl_RX11_94 dX11_apply_2 ?_
  refine V.aload_n dX11_apply_5 rfl rfl ?_
  obtain ⟨x3, h4, h⟩ := bnd h
  refine V.getF (gI_F h4) CF11 (Nat.le_of_ble_eq_true rfl) fl_RX11_332 dX11_apply_6 ?_
  refine V.if_eq (tgt := 28) dX11_apply_9 (by decide) (fun c5 => ?_) (fun c5 => ?_)
  · have h := (if_pos c5).symm.trans h
    refine V.iconst dX11_apply_28 ki_m1 ?_
    obtain rfl := Option.some.inj h
    exact V.ireturn dX11_apply_29
  · have h := (if_neg c5).symm.trans h
    refine V.aload_n dX11_apply_12 rfl rfl ?_
    obtain ⟨x6, h7, h⟩ := bnd h
    refine V.getF (gR_F h7) CF11 (Nat.le_of_ble_eq_true rfl) fl_RX11_72 dX11_apply_13 ?_
    refine V.aload_n dX11_apply_16 rfl rfl ?_
    obtain ⟨x8, h9, h⟩ := bnd h
    refine V.getF (gI_F h9) CF11 (Nat.le_of_ble_eq_true rfl) fl_RX11_336 dX11_apply_17 ?_
    obtain ⟨x10, h11, h⟩ := bnd h
    refine V.iald h11 dX11_apply_20 ?_
    refine V.aload_n dX11_apply_21 rfl rfl ?_
    obtain ⟨x12, h13, h⟩ := bnd h
    refine V.getF (gI_F h13) CF11 (Nat.le_of_ble_eq_true rfl) fl_RX11_339 dX11_apply_22 ?_
    refine V.icmp_eq (tgt := 30) dX11_apply_25 (by decide) (fun c14 => ?_) (fun c14 => ?_)
    · have h := (if_pos c14).symm.trans h
      refine V.aload_n dX11_apply_30 rfl rfl ?_
      obtain ⟨x15, h16, h⟩ := bnd h
      refine V.getF (gI_F h16) CF11 (Nat.le_of_ble_eq_true rfl) fl_RX11_342 dX11_apply_31 ?_
      refine V.iconst dX11_apply_34 ki_1 ?_
      refine V.isub dX11_apply_35 ?_
      refine V.istore_n (ls' := [some (LR v0), some (LI (x15 - (1 : Int32)))]) dX11_apply_36 rfl (by decide) rfl rfl ?_
      refine V.weak [true, true] ?_
      exact wl_X11_apply_37 N N h
    · have h := (if_neg c14).symm.trans h
      refine V.iconst dX11_apply_28 ki_m1 ?_
      obtain rfl := Option.some.inj h
      exact V.ireturn dX11_apply_29
def f_X11_apply (N : Nat) (A : LH) (v0 : Option Nat) : Option (Int32 × LH) := if isO A v0 11 = true then b_X11_apply N A v0 else none
theorem w_X11_apply {g : GG} (N : Nat) {A : LH} {v0 : Option Nat} {p : Int32 × LH} (h : f_X11_apply N A v0 = some p) : Ct g m_X11_apply 0 [LR v0] A (some (LI p.1)) p.2 := by
  unfold f_X11_apply at h
  obtain ⟨ho, h⟩ := ifN h
  exact ⟨wb_X11_apply N h, rfl⟩
theorem oo_X11_apply {N : Nat} {A : LH} {v0 : Option Nat} {p : Int32 × LH} (h : f_X11_apply N A v0 = some p) : isO A v0 11 = true := by unfold f_X11_apply at h; exact (ifN h).1
def b_X11_line (A : LH) (v0 : Option Nat) (v1 : Int32) (v2 : Int32) (v3 : Int32) : Option (Int32 × LH) :=
  (pF A v0 11 0 (LI (0 : Int32))).bind fun A1 => (f_X11_isLine A1 v0 v1 v2).bind fun p3 => if p3 = 0 then some ((-1 : Int32), A1) else (f_X11_in v3 (0 : Int32) (6 : Int32)).bind fun p7 => if p7 = 0 then some ((-1 : Int32), A1) else (gR A1 v0 11 15).bind fun x11 => (aI A1 x11 0 (((8 : Int32) * (((12 : Int32) * v1) + v2)) + v3)).bind fun x13 => if v3 = (6 : Int32) then if x13 = (-1 : Int32) then some ((0 : Int32), A1) else some ((1 : Int32), A1) else some (x13, A1)
set_option maxRecDepth 4000 in
theorem wb_X11_line {g : GG} {n0 z0 : Nat} {A : LH} {v0 : Option Nat} {v1 : Int32} {v2 : Int32} {v3 : Int32} {p : Int32 × LH} (h : b_X11_line A v0 v1 v2 v3 = some p) : V g m_X11_line 3 n0 z0 (some (LI p.1)) p.2 A 0 [some (LR v0), some (LI v1), some (LI v2), some (LI v3)] [] := by
  unfold b_X11_line at h
  refine V.aload_n dX11_line_0 rfl rfl ?_
  refine V.iconst dX11_line_1 ki_0 ?_
  obtain ⟨A1, h2, h⟩ := bnd h
  refine V.putF h2 rfl rfl rfl CF11 (Nat.le_of_ble_eq_true rfl) fl_RX11_94 dX11_line_2 ?_
  refine V.aload_n dX11_line_5 rfl rfl ?_
  refine V.iload_n dX11_line_6 rfl rfl ?_
  refine V.iload_n dX11_line_7 rfl rfl ?_
  obtain ⟨p3, h4, h⟩ := bnd h
  have w5 := w_X11_isLine (g := g) h4
  refine V.callVi (args := [LI v1, LI v2]) (st := []) w5.1 (oo_X11_isLine h4) mk_X11_isLine w5.2 vc_11 ml_RX11_313 im_X11_isLine se_X11_isLine rfl (Nat.le_of_ble_eq_true rfl) (by decide) rfl (Nat.le_of_ble_eq_true rfl) dX11_line_8 ?_
  refine V.if_eq (tgt := 24) dX11_line_11 (by decide) (fun c6 => ?_) (fun c6 => ?_)
  · have h := (if_pos c6).symm.trans h
    refine V.iconst dX11_line_24 ki_m1 ?_
    obtain rfl := Option.some.inj h
    exact V.ireturn dX11_line_25
  · have h := (if_neg c6).symm.trans h
    refine V.iload_n dX11_line_14 rfl rfl ?_
    refine V.iconst dX11_line_15 ki_0 ?_
    refine V.bipush dX11_line_16 kb_6 ?_
    obtain ⟨p7, h8, h⟩ := bnd h
    have w9 := w_X11_in (g := g) (A := A1) h8
    refine V.callSi (args := [LI v3, LI (0 : Int32), LI (6 : Int32)]) (st := []) w9.1 mk_X11_in w9.2 ml_RX11_108 sm_X11_in rfl (Nat.le_of_ble_eq_true rfl) (by decide) rfl (Nat.le_of_ble_eq_true rfl) dX11_line_18 ?_
    refine V.if_ne (tgt := 26) dX11_line_21 (by decide) (fun c10 => ?_) (fun c10 => ?_)
    · have h := (if_neg c10).symm.trans h
      refine V.aload_n dX11_line_26 rfl rfl ?_
      obtain ⟨x11, h12, h⟩ := bnd h
      refine V.getF (gR_F h12) CF11 (Nat.le_of_ble_eq_true rfl) fl_RX11_50 dX11_line_27 ?_
      refine V.bipush dX11_line_30 kb_8 ?_
      refine V.bipush dX11_line_32 kb_12 ?_
      refine V.iload_n dX11_line_34 rfl rfl ?_
      refine V.imul dX11_line_35 ?_
      refine V.iload_n dX11_line_36 rfl rfl ?_
      refine V.iadd dX11_line_37 ?_
      refine V.imul dX11_line_38 ?_
      refine V.iload_n dX11_line_39 rfl rfl ?_
      refine V.iadd dX11_line_40 ?_
      obtain ⟨x13, h14, h⟩ := bnd h
      refine V.iald h14 dX11_line_41 ?_
      refine V.istore (ls' := [some (LR v0), some (LI v1), some (LI v2), some (LI v3), some (LI x13)]) dX11_line_42 (by decide) rfl rfl ?_
      refine V.iload_n dX11_line_44 rfl rfl ?_
      refine V.bipush dX11_line_45 kb_6 ?_
      refine V.icmp_ne (tgt := 64) dX11_line_47 (by decide) (fun c15 => ?_) (fun c15 => ?_)
      · have h := (if_neg c15).symm.trans h
        refine V.iload dX11_line_64 rfl ?_
        obtain rfl := Option.some.inj h
        exact V.ireturn dX11_line_66
      · have h := (if_pos c15).symm.trans h
        refine V.iload dX11_line_50 rfl ?_
        refine V.iconst dX11_line_52 ki_m1 ?_
        refine V.icmp_ne (tgt := 60) dX11_line_53 (by decide) (fun c16 => ?_) (fun c16 => ?_)
        · have h := (if_neg c16).symm.trans h
          refine V.iconst dX11_line_60 ki_1 ?_
          refine V.goto (tgt := 66) dX11_line_61 (by decide) ?_
          obtain rfl := Option.some.inj h
          exact V.ireturn dX11_line_66
        · have h := (if_pos c16).symm.trans h
          refine V.iconst dX11_line_56 ki_0 ?_
          refine V.goto (tgt := 66) dX11_line_57 (by decide) ?_
          obtain rfl := Option.some.inj h
          exact V.ireturn dX11_line_66
    · have h := (if_pos c10).symm.trans h
      refine V.iconst dX11_line_24 ki_m1 ?_
      obtain rfl := Option.some.inj h
      exact V.ireturn dX11_line_25
def f_X11_line (A : LH) (v0 : Option Nat) (v1 : Int32) (v2 : Int32) (v3 : Int32) : Option (Int32 × LH) := if isO A v0 11 = true then b_X11_line A v0 v1 v2 v3 else none
theorem w_X11_line {g : GG} {A : LH} {v0 : Option Nat} {v1 : Int32} {v2 : Int32} {v3 : Int32} {p : Int32 × LH} (h : f_X11_line A v0 v1 v2 v3 = some p) : Ct g m_X11_line 3 [LR v0, LI v1, LI v2, LI v3] A (some (LI p.1)) p.2 := by
  unfold f_X11_line at h
  obtain ⟨ho, h⟩ := ifN h
  exact ⟨wb_X11_line h, rfl⟩
theorem oo_X11_line {A : LH} {v0 : Option Nat} {v1 : Int32} {v2 : Int32} {v3 : Int32} {p : Int32 × LH} (h : f_X11_line A v0 v1 v2 v3 = some p) : isO A v0 11 = true := by unfold f_X11_line at h; exact (ifN h).1
def b_X11_count_14 (N : Nat) (k14 : LH → Option Nat → Int32 → Int32 → Option (Int32 × LH)) (A : LH) (v0 : Option Nat) (v2 : Int32) (v3 : Int32) : Option (Int32 × LH) :=
  (gR A v0 11 10).bind fun x35 => (aI A x35 0 (0 : Int32)).bind fun x37 => if x37 ≤ v3 then some (v2, A) else (gR A v0 11 12).bind fun x40 => (aI A x40 0 v3).bind fun x42 => if x42 = (-1 : Int32) then k14 A v0 (v2 + (0 : Int32)) (v3 + (1 : Int32)) else k14 A v0 (v2 + (1 : Int32)) (v3 + (1 : Int32))
set_option maxRecDepth 4000 in
theorem wb_X11_count_14 {g : GG} {n0 z0 : Nat} (N : Nat) {k14 : LH → Option Nat → Int32 → Int32 → Option (Int32 × LH)} {A : LH} {v0 : Option Nat} {v2 : Int32} {v3 : Int32} {p : Int32 × LH} (hk14 : ∀ {A : LH} {v0 : Option Nat} {v2 : Int32} {v3 : Int32} {p : Int32 × LH}, k14 A v0 v2 v3 = some p → V g m_X11_count 1 n0 z0 (some (LI p.1)) p.2 A 14 [some (LR v0), none, some (LI v2), some (LI v3)] []) (h : b_X11_count_14 N k14 A v0 v2 v3 = some p) : V g m_X11_count 1 n0 z0 (some (LI p.1)) p.2 A 14 [some (LR v0), none, some (LI v2), some (LI v3)] [] := by
  unfold b_X11_count_14 at h
  refine V.iload_n dX11_count_14 rfl rfl ?_
  refine V.aload_n dX11_count_15 rfl rfl ?_
  obtain ⟨x35, h36, h⟩ := bnd h
  refine V.getF (gR_F h36) CF11 (Nat.le_of_ble_eq_true rfl) fl_RX11_35 dX11_count_16 ?_
  refine V.iconst dX11_count_19 ki_0 ?_
  obtain ⟨x37, h38, h⟩ := bnd h
  refine V.iald h38 dX11_count_20 ?_
  refine V.icmp_ge (tgt := 48) dX11_count_21 (by decide) (fun c39 => ?_) (fun c39 => ?_)
  · have h := (if_pos c39).symm.trans h
    refine V.iload_n dX11_count_48 rfl rfl ?_
    obtain rfl := Option.some.inj h
    exact V.ireturn dX11_count_49
  · have h := (if_neg c39).symm.trans h
    refine V.iload_n dX11_count_24 rfl rfl ?_
    refine V.aload_n dX11_count_25 rfl rfl ?_
    obtain ⟨x40, h41, h⟩ := bnd h
    refine V.getF (gR_F h41) CF11 (Nat.le_of_ble_eq_true rfl) fl_RX11_41 dX11_count_26 ?_
    refine V.iload_n dX11_count_29 rfl rfl ?_
    obtain ⟨x42, h43, h⟩ := bnd h
    refine V.iald h43 dX11_count_30 ?_
    refine V.iconst dX11_count_31 ki_m1 ?_
    refine V.icmp_eq (tgt := 39) dX11_count_32 (by decide) (fun c44 => ?_) (fun c44 => ?_)
    · have h := (if_pos c44).symm.trans h
      refine V.iconst dX11_count_39 ki_0 ?_
      refine V.iadd dX11_count_40 ?_
      refine V.istore_n (ls' := [some (LR v0), none, some (LI (v2 + (0 : Int32))), some (LI v3)]) dX11_count_41 rfl (by decide) rfl rfl ?_
      refine V.iinc (ls' := [some (LR v0), none, some (LI (v2 + (0 : Int32))), some (LI (v3 + (1 : Int32)))]) dX11_count_42 rfl ki_1 (by decide) rfl rfl ?_
      refine V.goto (tgt := 14) dX11_count_45 (by decide) ?_
      refine V.weak [true, false, true, true] ?_
      exact hk14 h
    · have h := (if_neg c44).symm.trans h
      refine V.iconst dX11_count_35 ki_1 ?_
      refine V.goto (tgt := 40) dX11_count_36 (by decide) ?_
      refine V.iadd dX11_count_40 ?_
      refine V.istore_n (ls' := [some (LR v0), none, some (LI (v2 + (1 : Int32))), some (LI v3)]) dX11_count_41 rfl (by decide) rfl rfl ?_
      refine V.iinc (ls' := [some (LR v0), none, some (LI (v2 + (1 : Int32))), some (LI (v3 + (1 : Int32)))]) dX11_count_42 rfl ki_1 (by decide) rfl rfl ?_
      refine V.goto (tgt := 14) dX11_count_45 (by decide) ?_
      refine V.weak [true, false, true, true] ?_
      exact hk14 h
def l_X11_count_14 (N : Nat) : Nat → LH → Option Nat → Int32 → Int32 → Option (Int32 × LH)
  | 0, _, _, _, _ => none
  | n + 1, A, v0, v2, v3 => b_X11_count_14 N (l_X11_count_14 N n) A v0 v2 v3
theorem wl_X11_count_14 {g : GG} {n0 z0 : Nat} (N : Nat) : ∀ (n : Nat) {A : LH} {v0 : Option Nat} {v2 : Int32} {v3 : Int32} {p : Int32 × LH}, l_X11_count_14 N n A v0 v2 v3 = some p → V g m_X11_count 1 n0 z0 (some (LI p.1)) p.2 A 14 [some (LR v0), none, some (LI v2), some (LI v3)] []
  | 0, _, _, _, _, _, h => nomatch h
  | n + 1, _, _, _, _, _, h => wb_X11_count_14 N (wl_X11_count_14 N n) h
def b_X11_count (N : Nat) (A : LH) (v0 : Option Nat) (v1 : Int32) : Option (Int32 × LH) :=
  (pF A v0 11 0 (LI (0 : Int32))).bind fun A1 => if v1 = (3 : Int32) then l_X11_count_14 N N A1 v0 (0 : Int32) (0 : Int32) else (f_X11_in v1 (4 : Int32) (7 : Int32)).bind fun p4 => if p4 = 0 then (f_X11_in v1 (8 : Int32) (11 : Int32)).bind fun p8 => if p8 = 0 then if v1 = 0 then (gR A1 v0 11 3).bind fun x23 => (aI A1 x23 0 (0 : Int32)).bind fun x25 => some (x25, A1) else if v1 = (1 : Int32) then (gR A1 v0 11 6).bind fun x19 => (aI A1 x19 0 (0 : Int32)).bind fun x21 => some (x21, A1) else if v1 = (2 : Int32) then (gR A1 v0 11 10).bind fun x15 => (aI A1 x15 0 (0 : Int32)).bind fun x17 => some (x17, A1) else some ((-1 : Int32), A1) else (gR A1 v0 11 13).bind fun x27 => (aI A1 x27 0 (v1 - (8 : Int32))).bind fun x29 => some (x29, A1) else (gR A1 v0 11 14).bind fun x31 => (aI A1 x31 0 (v1 - (4 : Int32))).bind fun x33 => some (x33, A1)
set_option maxRecDepth 4000 in
theorem wb_X11_count {g : GG} {n0 z0 : Nat} (N : Nat) {A : LH} {v0 : Option Nat} {v1 : Int32} {p : Int32 × LH} (h : b_X11_count N A v0 v1 = some p) : V g m_X11_count 1 n0 z0 (some (LI p.1)) p.2 A 0 [some (LR v0), some (LI v1)] [] := by
  unfold b_X11_count at h
  refine V.aload_n dX11_count_0 rfl rfl ?_
  refine V.iconst dX11_count_1 ki_0 ?_
  obtain ⟨A1, h2, h⟩ := bnd h
  refine V.putF h2 rfl rfl rfl CF11 (Nat.le_of_ble_eq_true rfl) fl_RX11_94 dX11_count_2 ?_
  refine V.iload_n dX11_count_5 rfl rfl ?_
  refine V.iconst dX11_count_6 ki_3 ?_
  refine V.icmp_ne (tgt := 50) dX11_count_7 (by decide) (fun c3 => ?_) (fun c3 => ?_)
  · have h := (if_neg c3).symm.trans h
    refine V.iload_n dX11_count_50 rfl rfl ?_
    refine V.iconst dX11_count_51 ki_4 ?_
    refine V.bipush dX11_count_52 kb_7 ?_
    obtain ⟨p4, h5, h⟩ := bnd h
    have w6 := w_X11_in (g := g) (A := A1) h5
    refine V.callSi (args := [LI v1, LI (4 : Int32), LI (7 : Int32)]) (st := []) w6.1 mk_X11_in w6.2 ml_RX11_108 sm_X11_in rfl (Nat.le_of_ble_eq_true rfl) (by decide) rfl (Nat.le_of_ble_eq_true rfl) dX11_count_54 ?_
    refine V.if_eq (tgt := 69) dX11_count_57 (by decide) (fun c7 => ?_) (fun c7 => ?_)
    · have h := (if_pos c7).symm.trans h
      refine V.iload_n dX11_count_69 rfl rfl ?_
      refine V.bipush dX11_count_70 kb_8 ?_
      refine V.bipush dX11_count_72 kb_11 ?_
      obtain ⟨p8, h9, h⟩ := bnd h
      have w10 := w_X11_in (g := g) (A := A1) h9
      refine V.callSi (args := [LI v1, LI (8 : Int32), LI (11 : Int32)]) (st := []) w10.1 mk_X11_in w10.2 ml_RX11_108 sm_X11_in rfl (Nat.le_of_ble_eq_true rfl) (by decide) rfl (Nat.le_of_ble_eq_true rfl) dX11_count_74 ?_
      refine V.if_eq (tgt := 90) dX11_count_77 (by decide) (fun c11 => ?_) (fun c11 => ?_)
      · have h := (if_pos c11).symm.trans h
        refine V.iload_n dX11_count_90 rfl rfl ?_
        refine V.if_ne (tgt := 103) dX11_count_91 (by decide) (fun c12 => ?_) (fun c12 => ?_)
        · have h := (if_neg c12).symm.trans h
          refine V.iload_n dX11_count_103 rfl rfl ?_
          refine V.iconst dX11_count_104 ki_1 ?_
          refine V.icmp_ne (tgt := 117) dX11_count_105 (by decide) (fun c13 => ?_) (fun c13 => ?_)
          · have h := (if_neg c13).symm.trans h
            refine V.iload_n dX11_count_117 rfl rfl ?_
            refine V.iconst dX11_count_118 ki_2 ?_
            refine V.icmp_ne (tgt := 131) dX11_count_119 (by decide) (fun c14 => ?_) (fun c14 => ?_)
            · have h := (if_neg c14).symm.trans h
              refine V.iconst dX11_count_131 ki_m1 ?_
              obtain rfl := Option.some.inj h
              exact V.ireturn dX11_count_132
            · have h := (if_pos c14).symm.trans h
              refine V.aload_n dX11_count_122 rfl rfl ?_
              obtain ⟨x15, h16, h⟩ := bnd h
              refine V.getF (gR_F h16) CF11 (Nat.le_of_ble_eq_true rfl) fl_RX11_35 dX11_count_123 ?_
              refine V.iconst dX11_count_126 ki_0 ?_
              obtain ⟨x17, h18, h⟩ := bnd h
              refine V.iald h18 dX11_count_127 ?_
              refine V.goto (tgt := 132) dX11_count_128 (by decide) ?_
              obtain rfl := Option.some.inj h
              exact V.ireturn dX11_count_132
          · have h := (if_pos c13).symm.trans h
            refine V.aload_n dX11_count_108 rfl rfl ?_
            obtain ⟨x19, h20, h⟩ := bnd h
            refine V.getF (gR_F h20) CF11 (Nat.le_of_ble_eq_true rfl) fl_RX11_23 dX11_count_109 ?_
            refine V.iconst dX11_count_112 ki_0 ?_
            obtain ⟨x21, h22, h⟩ := bnd h
            refine V.iald h22 dX11_count_113 ?_
            refine V.goto (tgt := 132) dX11_count_114 (by decide) ?_
            obtain rfl := Option.some.inj h
            exact V.ireturn dX11_count_132
        · have h := (if_pos c12).symm.trans h
          refine V.aload_n dX11_count_94 rfl rfl ?_
          obtain ⟨x23, h24, h⟩ := bnd h
          refine V.getF (gR_F h24) CF11 (Nat.le_of_ble_eq_true rfl) fl_RX11_13 dX11_count_95 ?_
          refine V.iconst dX11_count_98 ki_0 ?_
          obtain ⟨x25, h26, h⟩ := bnd h
          refine V.iald h26 dX11_count_99 ?_
          refine V.goto (tgt := 132) dX11_count_100 (by decide) ?_
          obtain rfl := Option.some.inj h
          exact V.ireturn dX11_count_132
      · have h := (if_neg c11).symm.trans h
        refine V.aload_n dX11_count_80 rfl rfl ?_
        obtain ⟨x27, h28, h⟩ := bnd h
        refine V.getF (gR_F h28) CF11 (Nat.le_of_ble_eq_true rfl) fl_RX11_44 dX11_count_81 ?_
        refine V.iload_n dX11_count_84 rfl rfl ?_
        refine V.bipush dX11_count_85 kb_8 ?_
        refine V.isub dX11_count_87 ?_
        obtain ⟨x29, h30, h⟩ := bnd h
        refine V.iald h30 dX11_count_88 ?_
        obtain rfl := Option.some.inj h
        exact V.ireturn dX11_count_89
    · have h := (if_neg c7).symm.trans h
      refine V.aload_n dX11_count_60 rfl rfl ?_
      obtain ⟨x31, h32, h⟩ := bnd h
      refine V.getF (gR_F h32) CF11 (Nat.le_of_ble_eq_true rfl) fl_RX11_47 dX11_count_61 ?_
      refine V.iload_n dX11_count_64 rfl rfl ?_
      refine V.iconst dX11_count_65 ki_4 ?_
      refine V.isub dX11_count_66 ?_
      obtain ⟨x33, h34, h⟩ := bnd h
      refine V.iald h34 dX11_count_67 ?_
      obtain rfl := Option.some.inj h
      exact V.ireturn dX11_count_68
  · have h := (if_pos c3).symm.trans h
    refine V.iconst dX11_count_10 ki_0 ?_
    refine V.istore_n (ls' := [some (LR v0), some (LI v1), some (LI (0 : Int32))]) dX11_count_11 rfl (by decide) rfl rfl ?_
    refine V.iconst dX11_count_12 ki_0 ?_
    refine V.istore_n (ls' := [some (LR v0), some (LI v1), some (LI (0 : Int32)), some (LI (0 : Int32))]) dX11_count_13 rfl (by decide) rfl rfl ?_
    refine V.weak [true, false, true, true] ?_
    exact wl_X11_count_14 N N h
def f_X11_count (N : Nat) (A : LH) (v0 : Option Nat) (v1 : Int32) : Option (Int32 × LH) := if isO A v0 11 = true then b_X11_count N A v0 v1 else none
theorem w_X11_count {g : GG} (N : Nat) {A : LH} {v0 : Option Nat} {v1 : Int32} {p : Int32 × LH} (h : f_X11_count N A v0 v1 = some p) : Ct g m_X11_count 1 [LR v0, LI v1] A (some (LI p.1)) p.2 := by
  unfold f_X11_count at h
  obtain ⟨ho, h⟩ := ifN h
  exact ⟨wb_X11_count N h, rfl⟩
theorem oo_X11_count {N : Nat} {A : LH} {v0 : Option Nat} {v1 : Int32} {p : Int32 × LH} (h : f_X11_count N A v0 v1 = some p) : isO A v0 11 = true := by unfold f_X11_count at h; exact (ifN h).1
def b_X11_image (N : Nat) (A : LH) (v0 : Option Nat) (v1 : Int32) : Option (Int32 × LH) :=
  (pF A v0 11 0 (LI (0 : Int32))).bind fun A1 => (f_X11_in v1 (0 : Int32) (2 : Int32)).bind fun p3 => if p3 = 0 then some ((0 : Int32), A1) else (f_X11_copy N A1 v0 (0 : Int32) (v1 + (1 : Int32))).bind fun p7 => (gR p7 v0 11 49).bind fun x10 => (sI p7 x10 2 v1 (vp_nar .boolean (1 : Int32))).bind fun A12 => some ((1 : Int32), A12)
set_option maxRecDepth 4000 in
theorem wb_X11_image {g : GG} {n0 z0 : Nat} (N : Nat) {A : LH} {v0 : Option Nat} {v1 : Int32} {p : Int32 × LH} (h : b_X11_image N A v0 v1 = some p) : V g m_X11_image 2 n0 z0 (some (LI p.1)) p.2 A 0 [some (LR v0), some (LI v1)] [] := by
  unfold b_X11_image at h
  refine V.aload_n dX11_image_0 rfl rfl ?_
  refine V.iconst dX11_image_1 ki_0 ?_
  obtain ⟨A1, h2, h⟩ := bnd h
  refine V.putF h2 rfl rfl rfl CF11 (Nat.le_of_ble_eq_true rfl) fl_RX11_94 dX11_image_2 ?_
  refine V.iload_n dX11_image_5 rfl rfl ?_
  refine V.iconst dX11_image_6 ki_0 ?_
  refine V.iconst dX11_image_7 ki_2 ?_
  obtain ⟨p3, h4, h⟩ := bnd h
  have w5 := w_X11_in (g := g) (A := A1) h4
  refine V.callSi (args := [LI v1, LI (0 : Int32), LI (2 : Int32)]) (st := []) w5.1 mk_X11_in w5.2 ml_RX11_108 sm_X11_in rfl (Nat.le_of_ble_eq_true rfl) (by decide) rfl (Nat.le_of_ble_eq_true rfl) dX11_image_8 ?_
  refine V.if_ne (tgt := 16) dX11_image_11 (by decide) (fun c6 => ?_) (fun c6 => ?_)
  · have h := (if_neg c6).symm.trans h
    refine V.aload_n dX11_image_16 rfl rfl ?_
    refine V.iconst dX11_image_17 ki_0 ?_
    refine V.iload_n dX11_image_18 rfl rfl ?_
    refine V.iconst dX11_image_19 ki_1 ?_
    refine V.iadd dX11_image_20 ?_
    obtain ⟨p7, h8, h⟩ := bnd h
    have w9 := w_X11_copy (g := g) N h8
    refine V.callVv (args := [LI (0 : Int32), LI (v1 + (1 : Int32))]) (st := []) w9.1 (oo_X11_copy h8) mk_X11_copy w9.2 vc_11 ml_RX11_345 im_X11_copy se_X11_copy rfl (Nat.le_of_ble_eq_true rfl) (by decide) rfl (Nat.le_of_ble_eq_true rfl) dX11_image_21 ?_
    refine V.aload_n dX11_image_24 rfl rfl ?_
    obtain ⟨x10, h11, h⟩ := bnd h
    refine V.getF (gR_F h11) CF11 (Nat.le_of_ble_eq_true rfl) fl_RX11_90 dX11_image_25 ?_
    refine V.iload_n dX11_image_28 rfl rfl ?_
    refine V.iconst dX11_image_29 ki_1 ?_
    obtain ⟨A12, h13, h⟩ := bnd h
    refine V.zast h13 dX11_image_30 ?_
    refine V.iconst dX11_image_31 ki_1 ?_
    obtain rfl := Option.some.inj h
    exact V.ireturn dX11_image_32
  · have h := (if_pos c6).symm.trans h
    refine V.iconst dX11_image_14 ki_0 ?_
    obtain rfl := Option.some.inj h
    exact V.ireturn dX11_image_15
def f_X11_image (N : Nat) (A : LH) (v0 : Option Nat) (v1 : Int32) : Option (Int32 × LH) := if isO A v0 11 = true then zc (b_X11_image N A v0 v1) else none
theorem w_X11_image {g : GG} (N : Nat) {A : LH} {v0 : Option Nat} {v1 : Int32} {p : Int32 × LH} (h : f_X11_image N A v0 v1 = some p) : Ct g m_X11_image 2 [LR v0, LI v1] A (some (LI p.1)) p.2 := by
  unfold f_X11_image at h
  obtain ⟨ho, h⟩ := ifN h
  obtain ⟨h, hz⟩ := zc_sp h
  exact ⟨wb_X11_image N h, (RTz hz)⟩
theorem oo_X11_image {N : Nat} {A : LH} {v0 : Option Nat} {v1 : Int32} {p : Int32 × LH} (h : f_X11_image N A v0 v1 = some p) : isO A v0 11 = true := by unfold f_X11_image at h; exact (ifN h).1
def b_X11_again (N : Nat) (A : LH) (v0 : Option Nat) (v1 : Int32) : Option (Int32 × LH) :=
  (pF A v0 11 0 (LI (0 : Int32))).bind fun A1 => (f_X11_in v1 (0 : Int32) (2 : Int32)).bind fun p3 => if p3 = 0 then some ((0 : Int32), A1) else (gR A1 v0 11 49).bind fun x7 => (aI A1 x7 2 v1).bind fun x9 => if x9 = 0 then some ((0 : Int32), A1) else (f_X11_copy N A1 v0 (v1 + (1 : Int32)) (0 : Int32)).bind fun p12 => (pZ p12 v0 11 41 (0 : Int32)).bind fun A15 => some ((1 : Int32), A15)
set_option maxRecDepth 4000 in
theorem wb_X11_again {g : GG} {n0 z0 : Nat} (N : Nat) {A : LH} {v0 : Option Nat} {v1 : Int32} {p : Int32 × LH} (h : b_X11_again N A v0 v1 = some p) : V g m_X11_again 2 n0 z0 (some (LI p.1)) p.2 A 0 [some (LR v0), some (LI v1)] [] := by
  unfold b_X11_again at h
  refine V.aload_n dX11_again_0 rfl rfl ?_
  refine V.iconst dX11_again_1 ki_0 ?_
  obtain ⟨A1, h2, h⟩ := bnd h
  refine V.putF h2 rfl rfl rfl CF11 (Nat.le_of_ble_eq_true rfl) fl_RX11_94 dX11_again_2 ?_
  refine V.iload_n dX11_again_5 rfl rfl ?_
  refine V.iconst dX11_again_6 ki_0 ?_
  refine V.iconst dX11_again_7 ki_2 ?_
  obtain ⟨p3, h4, h⟩ := bnd h
  have w5 := w_X11_in (g := g) (A := A1) h4
  refine V.callSi (args := [LI v1, LI (0 : Int32), LI (2 : Int32)]) (st := []) w5.1 mk_X11_in w5.2 ml_RX11_108 sm_X11_in rfl (Nat.le_of_ble_eq_true rfl) (by decide) rfl (Nat.le_of_ble_eq_true rfl) dX11_again_8 ?_
  refine V.if_eq (tgt := 23) dX11_again_11 (by decide) (fun c6 => ?_) (fun c6 => ?_)
  · have h := (if_pos c6).symm.trans h
    refine V.iconst dX11_again_23 ki_0 ?_
    obtain rfl := Option.some.inj h
    exact V.ireturn dX11_again_24
  · have h := (if_neg c6).symm.trans h
    refine V.aload_n dX11_again_14 rfl rfl ?_
    obtain ⟨x7, h8, h⟩ := bnd h
    refine V.getF (gR_F h8) CF11 (Nat.le_of_ble_eq_true rfl) fl_RX11_90 dX11_again_15 ?_
    refine V.iload_n dX11_again_18 rfl rfl ?_
    obtain ⟨x9, h10, h⟩ := bnd h
    refine V.zald h10 dX11_again_19 ?_
    refine V.if_ne (tgt := 25) dX11_again_20 (by decide) (fun c11 => ?_) (fun c11 => ?_)
    · have h := (if_neg c11).symm.trans h
      refine V.aload_n dX11_again_25 rfl rfl ?_
      refine V.iload_n dX11_again_26 rfl rfl ?_
      refine V.iconst dX11_again_27 ki_1 ?_
      refine V.iadd dX11_again_28 ?_
      refine V.iconst dX11_again_29 ki_0 ?_
      obtain ⟨p12, h13, h⟩ := bnd h
      have w14 := w_X11_copy (g := g) N h13
      refine V.callVv (args := [LI (v1 + (1 : Int32)), LI (0 : Int32)]) (st := []) w14.1 (oo_X11_copy h13) mk_X11_copy w14.2 vc_11 ml_RX11_345 im_X11_copy se_X11_copy rfl (Nat.le_of_ble_eq_true rfl) (by decide) rfl (Nat.le_of_ble_eq_true rfl) dX11_again_30 ?_
      refine V.aload_n dX11_again_33 rfl rfl ?_
      refine V.iconst dX11_again_34 ki_0 ?_
      obtain ⟨A15, h16, h⟩ := bnd h
      refine V.putF (pZ_F h16).1 (pZ_n (pZ_F h16).2) (pZ_f (pZ_F h16).2) rfl CF11 (Nat.le_of_ble_eq_true rfl) fl_RX11_332 dX11_again_35 ?_
      refine V.iconst dX11_again_38 ki_1 ?_
      obtain rfl := Option.some.inj h
      exact V.ireturn dX11_again_39
    · have h := (if_pos c11).symm.trans h
      refine V.iconst dX11_again_23 ki_0 ?_
      obtain rfl := Option.some.inj h
      exact V.ireturn dX11_again_24
def f_X11_again (N : Nat) (A : LH) (v0 : Option Nat) (v1 : Int32) : Option (Int32 × LH) := if isO A v0 11 = true then zc (b_X11_again N A v0 v1) else none
theorem w_X11_again {g : GG} (N : Nat) {A : LH} {v0 : Option Nat} {v1 : Int32} {p : Int32 × LH} (h : f_X11_again N A v0 v1 = some p) : Ct g m_X11_again 2 [LR v0, LI v1] A (some (LI p.1)) p.2 := by
  unfold f_X11_again at h
  obtain ⟨ho, h⟩ := ifN h
  obtain ⟨h, hz⟩ := zc_sp h
  exact ⟨wb_X11_again N h, (RTz hz)⟩
theorem oo_X11_again {N : Nat} {A : LH} {v0 : Option Nat} {v1 : Int32} {p : Int32 × LH} (h : f_X11_again N A v0 v1 = some p) : isO A v0 11 = true := by unfold f_X11_again at h; exact (ifN h).1
