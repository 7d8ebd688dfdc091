abbrev m_L_law : MM := (yL_law, cL_law, 4, some .boolean)
def b_L_law_562 (N : Nat) (k18 : LH → Option Nat → Option Nat → Option Nat → Int32 → Option (Int32 × LH)) (A : LH) (v0 : Option Nat) (v1 : Option Nat) (v2 : Option Nat) (v3 : Int32) (s0 : Int32) (s1 : Int32) (s2 : Int32) (s3 : Int32) (s4 : Int32) (s5 : Int32) (s6 : Option Nat) (s7 : Int32) : Option (Int32 × LH) :=
  (f_X11_decide N A s6 s5 s4 s3 s2 s1 s0).bind fun p198 => if s7 = p198.1 then k18 p198.2 v0 v1 v2 (v3 + (7 : Int32)) else some ((0 : Int32), p198.2)
set_option maxRecDepth 4000 in
theorem wb_L_law_562 {g : GG} {n0 z0 : Nat} (N : Nat) {k18 : LH → Option Nat → Option Nat → Option Nat → Int32 → Option (Int32 × LH)} {A : LH} {v0 : Option Nat} {v1 : Option Nat} {v2 : Option Nat} {v3 : Int32} {s0 : Int32} {s1 : Int32} {s2 : Int32} {s3 : Int32} {s4 : Int32} {s5 : Int32} {s6 : Option Nat} {s7 : Int32} {p : Int32 × LH} (hk18 : ∀ {A : LH} {v0 : Option Nat} {v1 : Option Nat} {v2 : Option Nat} {v3 : Int32} {p : Int32 × LH}, k18 A v0 v1 v2 v3 = some p → V g m_L_law 51 n0 z0 (some (LI p.1)) p.2 A 18 [some (LR v0), some (LR v1), some (LR v2), some (LI v3)] []) (h : b_L_law_562 N k18 A v0 v1 v2 v3 s0 s1 s2 s3 s4 s5 s6 s7 = some p) : V g m_L_law 51 n0 z0 (some (LI p.1)) p.2 A 562 [some (LR v0), some (LR v1), some (LR v2), some (LI v3)] [LI s0, LI s1, LI s2, LI s3, LI s4, LI s5, LR s6, LI s7] := by
  unfold b_L_law_562 at h
  obtain ⟨p198, h199, h⟩ := bnd h
  have w200 := w_X11_decide (g := g) N h199
  refine V.callVi (args := [LI s5, LI s4, LI s3, LI s2, LI s1, LI s0]) (st := [LI s7]) w200.1 (oo_X11_decide h199) mk_X11_decide w200.2 vc_11 ml_RL_58 im_X11_decide se_X11_decide rfl (Nat.le_of_ble_eq_true rfl) (by decide) rfl (Nat.le_of_ble_eq_true rfl) dL_law_562 ?_
  refine V.icmp_eq (tgt := 1078) dL_law_565 (by decide) (fun c201 => ?_) (fun c201 => ?_)
  · have h := (if_pos c201).symm.trans h
    refine V.iinc (ls' := [some (LR v0), some (LR v1), some (LR v2), some (LI (v3 + (7 : Int32)))]) dL_law_1078 rfl ki_7 (by decide) rfl rfl ?_
    refine V.goto (tgt := 18) dL_law_1081 (by decide) ?_
    refine V.weak [true, true, true, true] ?_
    exact hk18 h
  · have h := (if_neg c201).symm.trans h
    refine V.iconst dL_law_568 ki_0 ?_
    obtain rfl := Option.some.inj h
    exact V.ireturn dL_law_569
def b_L_law_519 (N : Nat) (k18 : LH → Option Nat → Option Nat → Option Nat → Int32 → Option (Int32 × LH)) (A : LH) (v0 : Option Nat) (v1 : Option Nat) (v2 : Option Nat) (v3 : Int32) (s0 : Int32) (s1 : Int32) (s2 : Int32) (s3 : Int32) (s4 : Int32) (s5 : Int32) (s6 : Option Nat) : Option (Int32 × LH) :=
  (f_X10_decide N A s6 s5 s4 s3 s2 s1 s0).bind fun p182 => (aI p182.2 v0 0 (v3 + (1 : Int32))).bind fun x185 => (aI p182.2 v0 0 (v3 + (2 : Int32))).bind fun x187 => (aI p182.2 v0 0 (v3 + (3 : Int32))).bind fun x189 => (aI p182.2 v0 0 (v3 + (4 : Int32))).bind fun x191 => (aI p182.2 v0 0 (v3 + (5 : Int32))).bind fun x193 => (aI p182.2 v0 0 (v3 + (6 : Int32))).bind fun x195 => if x195 = 0 then b_L_law_562 N k18 p182.2 v0 v1 v2 v3 (0 : Int32) x193 x191 x189 x187 x185 v2 p182.1 else b_L_law_562 N k18 p182.2 v0 v1 v2 v3 (1 : Int32) x193 x191 x189 x187 x185 v2 p182.1
set_option maxRecDepth 4000 in
theorem wb_L_law_519 {g : GG} {n0 z0 : Nat} (N : Nat) {k18 : LH → Option Nat → Option Nat → Option Nat → Int32 → Option (Int32 × LH)} {A : LH} {v0 : Option Nat} {v1 : Option Nat} {v2 : Option Nat} {v3 : Int32} {s0 : Int32} {s1 : Int32} {s2 : Int32} {s3 : Int32} {s4 : Int32} {s5 : Int32} {s6 : Option Nat} {p : Int32 × LH} (hk18 : ∀ {A : LH} {v0 : Option Nat} {v1 : Option Nat} {v2 : Option Nat} {v3 : Int32} {p : Int32 × LH}, k18 A v0 v1 v2 v3 = some p → V g m_L_law 51 n0 z0 (some (LI p.1)) p.2 A 18 [some (LR v0), some (LR v1), some (LR v2), some (LI v3)] []) (h : b_L_law_519 N k18 A v0 v1 v2 v3 s0 s1 s2 s3 s4 s5 s6 = some p) : V g m_L_law 51 n0 z0 (some (LI p.1)) p.2 A 519 [some (LR v0), some (LR v1), some (LR v2), some (LI v3)] [LI s0, LI s1, LI s2, LI s3, LI s4, LI s5, LR s6] := by
  unfold b_L_law_519 at h
  obtain ⟨p182, h183, h⟩ := bnd h
  have w184 := w_X10_decide (g := g) N h183
  refine V.callVi (args := [LI s5, LI s4, LI s3, LI s2, LI s1, LI s0]) (st := []) w184.1 (oo_X10_decide h183) mk_X10_decide w184.2 vc_10 ml_RL_54 im_X10_decide se_X10_decide rfl (Nat.le_of_ble_eq_true rfl) (by decide) rfl (Nat.le_of_ble_eq_true rfl) dL_law_519 ?_
  refine V.aload_n dL_law_522 rfl rfl ?_
  refine V.aload_n dL_law_523 rfl rfl ?_
  refine V.iload_n dL_law_524 rfl rfl ?_
  refine V.iconst dL_law_525 ki_1 ?_
  refine V.iadd dL_law_526 ?_
  obtain ⟨x185, h186, h⟩ := bnd h
  refine V.iald h186 dL_law_527 ?_
  refine V.aload_n dL_law_528 rfl rfl ?_
  refine V.iload_n dL_law_529 rfl rfl ?_
  refine V.iconst dL_law_530 ki_2 ?_
  refine V.iadd dL_law_531 ?_
  obtain ⟨x187, h188, h⟩ := bnd h
  refine V.iald h188 dL_law_532 ?_
  refine V.aload_n dL_law_533 rfl rfl ?_
  refine V.iload_n dL_law_534 rfl rfl ?_
  refine V.iconst dL_law_535 ki_3 ?_
  refine V.iadd dL_law_536 ?_
  obtain ⟨x189, h190, h⟩ := bnd h
  refine V.iald h190 dL_law_537 ?_
  refine V.aload_n dL_law_538 rfl rfl ?_
  refine V.iload_n dL_law_539 rfl rfl ?_
  refine V.iconst dL_law_540 ki_4 ?_
  refine V.iadd dL_law_541 ?_
  obtain ⟨x191, h192, h⟩ := bnd h
  refine V.iald h192 dL_law_542 ?_
  refine V.aload_n dL_law_543 rfl rfl ?_
  refine V.iload_n dL_law_544 rfl rfl ?_
  refine V.iconst dL_law_545 ki_5 ?_
  refine V.iadd dL_law_546 ?_
  obtain ⟨x193, h194, h⟩ := bnd h
  refine V.iald h194 dL_law_547 ?_
  refine V.aload_n dL_law_548 rfl rfl ?_
  refine V.iload_n dL_law_549 rfl rfl ?_
  refine V.bipush dL_law_550 kb_6 ?_
  refine V.iadd dL_law_552 ?_
  obtain ⟨x195, h196, h⟩ := bnd h
  refine V.iald h196 dL_law_553 ?_
  refine V.if_eq (tgt := 561) dL_law_554 (by decide) (fun c197 => ?_) (fun c197 => ?_)
  · have h := (if_pos c197).symm.trans h
    refine V.iconst dL_law_561 ki_0 ?_
    refine V.weak [true, true, true, true] ?_
    exact wb_L_law_562 N hk18 h
  · have h := (if_neg c197).symm.trans h
    refine V.iconst dL_law_557 ki_1 ?_
    refine V.goto (tgt := 562) dL_law_558 (by decide) ?_
    refine V.weak [true, true, true, true] ?_
    exact wb_L_law_562 N hk18 h
def b_L_law_18 (N : Nat) (k18 : LH → Option Nat → Option Nat → Option Nat → Int32 → Option (Int32 × LH)) (A : LH) (v0 : Option Nat) (v1 : Option Nat) (v2 : Option Nat) (v3 : Int32) : Option (Int32 × LH) :=
  (ln6 A v0).bind fun x7 => if (x7 - (7 : Int32)) < v3 then some ((1 : Int32), A) else (aI A v0 0 v3).bind fun x10 => if (x10 &&& (31 : Int32)) = 0 then (aI A v0 0 (v3 + (1 : Int32))).bind fun x13 => (aI A v0 0 (v3 + (2 : Int32))).bind fun x15 => (aI A v0 0 (v3 + (3 : Int32))).bind fun x17 => (aI A v0 0 (v3 + (4 : Int32))).bind fun x19 => (aI A v0 0 (v3 + (5 : Int32))).bind fun x21 => (f_X10_feed N A v1 x13 x15 x17 x19 x21).bind fun p23 => (aI p23.2 v0 0 (v3 + (1 : Int32))).bind fun x26 => (aI p23.2 v0 0 (v3 + (2 : Int32))).bind fun x28 => (aI p23.2 v0 0 (v3 + (3 : Int32))).bind fun x30 => (aI p23.2 v0 0 (v3 + (4 : Int32))).bind fun x32 => (aI p23.2 v0 0 (v3 + (5 : Int32))).bind fun x34 => (f_X11_feed N p23.2 v2 x26 x28 x30 x32 x34).bind fun p36 => if p23.1 = p36.1 then k18 p36.2 v0 v1 v2 (v3 + (7 : Int32)) else some ((0 : Int32), p36.2) else if (x10 &&& (31 : Int32)) = 1 then (aI A v0 0 (v3 + (1 : Int32))).bind fun x41 => (f_X10_end A v1 x41).bind fun p43 => (aI p43.2 v0 0 (v3 + (1 : Int32))).bind fun x46 => (f_X11_end p43.2 v2 x46).bind fun p48 => if p43.1 = p48.1 then k18 p48.2 v0 v1 v2 (v3 + (7 : Int32)) else some ((0 : Int32), p48.2) else if (x10 &&& (31 : Int32)) = 2 then (aI A v0 0 (v3 + (1 : Int32))).bind fun x53 => (f_X10_rules N A v1 x53).bind fun p55 => (aI p55.2 v0 0 (v3 + (1 : Int32))).bind fun x58 => (f_X11_rules N p55.2 v2 x58).bind fun p60 => if p55.1 = p60.1 then k18 p60.2 v0 v1 v2 (v3 + (7 : Int32)) else some ((0 : Int32), p60.2) else if (x10 &&& (31 : Int32)) = 3 then (aI A v0 0 (v3 + (1 : Int32))).bind fun x65 => (f_X10_fault A v1 x65).bind fun p67 => (aI A v0 0 (v3 + (1 : Int32))).bind fun x70 => (f_X11_fault A v2 x70).bind fun p72 => if p67 = p72.1 then k18 p72.2 v0 v1 v2 (v3 + (7 : Int32)) else some ((0 : Int32), p72.2) else if (x10 &&& (31 : Int32)) = 4 then (aI A v0 0 (v3 + (1 : Int32))).bind fun x77 => (aI A v0 0 (v3 + (2 : Int32))).bind fun x79 => (f_X10_person A v1 x77 x79).bind fun p81 => (aI p81.2 v0 0 (v3 + (1 : Int32))).bind fun x84 => (aI p81.2 v0 0 (v3 + (2 : Int32))).bind fun x86 => (f_X11_person p81.2 v2 x84 x86).bind fun p88 => if p81.1 = p88.1 then k18 p88.2 v0 v1 v2 (v3 + (7 : Int32)) else some ((0 : Int32), p88.2) else if (x10 &&& (31 : Int32)) = 5 then (aI A v0 0 (v3 + (1 : Int32))).bind fun x93 => (aI A v0 0 (v3 + (2 : Int32))).bind fun x95 => (aI A v0 0 (v3 + (3 : Int32))).bind fun x97 => (f_X10_thing A v1 x93 x95 x97).bind fun p99 => (aI p99.2 v0 0 (v3 + (1 : Int32))).bind fun x102 => (aI p99.2 v0 0 (v3 + (2 : Int32))).bind fun x104 => (aI p99.2 v0 0 (v3 + (3 : Int32))).bind fun x106 => (f_X11_thing p99.2 v2 x102 x104 x106).bind fun p108 => if p99.1 = p108.1 then k18 p108.2 v0 v1 v2 (v3 + (7 : Int32)) else some ((0 : Int32), p108.2) else if (x10 &&& (31 : Int32)) = 6 then (aI A v0 0 (v3 + (1 : Int32))).bind fun x113 => (aI A v0 0 (v3 + (2 : Int32))).bind fun x115 => (aI A v0 0 (v3 + (3 : Int32))).bind fun x117 => (f_X10_moves A v1 x113 x115 x117).bind fun p119 => (aI p119.2 v0 0 (v3 + (1 : Int32))).bind fun x122 => (aI p119.2 v0 0 (v3 + (2 : Int32))).bind fun x124 => (aI p119.2 v0 0 (v3 + (3 : Int32))).bind fun x126 => (f_X11_moves p119.2 v2 x122 x124 x126).bind fun p128 => if p119.1 = p128.1 then k18 p128.2 v0 v1 v2 (v3 + (7 : Int32)) else some ((0 : Int32), p128.2) else if (x10 &&& (31 : Int32)) = 7 then (aI A v0 0 (v3 + (1 : Int32))).bind fun x133 => (aI A v0 0 (v3 + (2 : Int32))).bind fun x135 => (aI A v0 0 (v3 + (3 : Int32))).bind fun x137 => (f_X10_gives A v1 x133 x135 x137).bind fun p139 => (aI p139.2 v0 0 (v3 + (1 : Int32))).bind fun x142 => (aI p139.2 v0 0 (v3 + (2 : Int32))).bind fun x144 => (aI p139.2 v0 0 (v3 + (3 : Int32))).bind fun x146 => (f_X11_gives p139.2 v2 x142 x144 x146).bind fun p148 => if p139.1 = p148.1 then k18 p148.2 v0 v1 v2 (v3 + (7 : Int32)) else some ((0 : Int32), p148.2) else if (x10 &&& (31 : Int32)) = 8 then (aI A v0 0 (v3 + (1 : Int32))).bind fun x153 => (aI A v0 0 (v3 + (2 : Int32))).bind fun x155 => (f_X10_tell A v1 x153 x155).bind fun p157 => (aI A v0 0 (v3 + (1 : Int32))).bind fun x160 => (aI A v0 0 (v3 + (2 : Int32))).bind fun x162 => (f_X11_tell A v2 x160 x162).bind fun p164 => if p157 = p164.1 then k18 p164.2 v0 v1 v2 (v3 + (7 : Int32)) else some ((0 : Int32), p164.2) else if (x10 &&& (31 : Int32)) = 9 then (aI A v0 0 (v3 + (1 : Int32))).bind fun x169 => (aI A v0 0 (v3 + (2 : Int32))).bind fun x171 => (aI A v0 0 (v3 + (3 : Int32))).bind fun x173 => (aI A v0 0 (v3 + (4 : Int32))).bind fun x175 => (aI A v0 0 (v3 + (5 : Int32))).bind fun x177 => (aI A v0 0 (v3 + (6 : Int32))).bind fun x179 => if x179 = 0 then b_L_law_519 N k18 A v0 v1 v2 v3 (0 : Int32) x177 x175 x173 x171 x169 v1 else b_L_law_519 N k18 A v0 v1 v2 v3 (1 : Int32) x177 x175 x173 x171 x169 v1 else if (x10 &&& (31 : Int32)) = 10 then (aI A v0 0 (v3 + (1 : Int32))).bind fun x203 => (aI A v0 0 (v3 + (2 : Int32))).bind fun x205 => (aI A v0 0 (v3 + (3 : Int32))).bind fun x207 => (aI A v0 0 (v3 + (4 : Int32))).bind fun x209 => (f_X10_ask A v1 x203 x205 x207 x209).bind fun p211 => (aI p211.2 v0 0 (v3 + (1 : Int32))).bind fun x214 => (aI p211.2 v0 0 (v3 + (2 : Int32))).bind fun x216 => (aI p211.2 v0 0 (v3 + (3 : Int32))).bind fun x218 => (aI p211.2 v0 0 (v3 + (4 : Int32))).bind fun x220 => (f_X11_ask p211.2 v2 x214 x216 x218 x220).bind fun p222 => if p211.1 = p222.1 then k18 p222.2 v0 v1 v2 (v3 + (7 : Int32)) else some ((0 : Int32), p222.2) else if (x10 &&& (31 : Int32)) = 11 then (aI A v0 0 (v3 + (1 : Int32))).bind fun x227 => (aI A v0 0 (v3 + (2 : Int32))).bind fun x229 => (f_X10_mark A v1 x227 x229).bind fun p231 => (aI p231.2 v0 0 (v3 + (1 : Int32))).bind fun x234 => (aI p231.2 v0 0 (v3 + (2 : Int32))).bind fun x236 => (f_X11_mark p231.2 v2 x234 x236).bind fun p238 => if p231.1 = p238.1 then k18 p238.2 v0 v1 v2 (v3 + (7 : Int32)) else some ((0 : Int32), p238.2) else if (x10 &&& (31 : Int32)) = 12 then (aI A v0 0 (v3 + (1 : Int32))).bind fun x243 => (aI A v0 0 (v3 + (2 : Int32))).bind fun x245 => (f_X10_book A v1 x243 x245).bind fun p247 => (aI A v0 0 (v3 + (1 : Int32))).bind fun x250 => (aI A v0 0 (v3 + (2 : Int32))).bind fun x252 => (f_X11_book A v2 x250 x252).bind fun p254 => if p247 = p254.1 then k18 p254.2 v0 v1 v2 (v3 + (7 : Int32)) else some ((0 : Int32), p254.2) else if (x10 &&& (31 : Int32)) = 13 then (aI A v0 0 (v3 + (1 : Int32))).bind fun x259 => (f_X10_tried N A v1 x259).bind fun p261 => (aI p261.2 v0 0 (v3 + (1 : Int32))).bind fun x264 => (f_X11_tried N p261.2 v2 x264).bind fun p266 => if p261.1 = p266.1 then k18 p266.2 v0 v1 v2 (v3 + (7 : Int32)) else some ((0 : Int32), p266.2) else if (x10 &&& (31 : Int32)) = 14 then (aI A v0 0 (v3 + (1 : Int32))).bind fun x271 => (aI A v0 0 (v3 + (2 : Int32))).bind fun x273 => (f_X10_decides N A v1 x271 x273).bind fun p275 => (aI p275.2 v0 0 (v3 + (1 : Int32))).bind fun x278 => (aI p275.2 v0 0 (v3 + (2 : Int32))).bind fun x280 => (f_X11_decides N p275.2 v2 x278 x280).bind fun p282 => if p275.1 = p282.1 then k18 p282.2 v0 v1 v2 (v3 + (7 : Int32)) else some ((0 : Int32), p282.2) else if (x10 &&& (31 : Int32)) = 15 then (aI A v0 0 (v3 + (1 : Int32))).bind fun x287 => (aI A v0 0 (v3 + (2 : Int32))).bind fun x289 => (aI A v0 0 (v3 + (3 : Int32))).bind fun x291 => (f_X10_lost N A v1 x287 x289 x291).bind fun p293 => (aI p293.2 v0 0 (v3 + (1 : Int32))).bind fun x296 => (aI p293.2 v0 0 (v3 + (2 : Int32))).bind fun x298 => (aI p293.2 v0 0 (v3 + (3 : Int32))).bind fun x300 => (f_X11_lost N p293.2 v2 x296 x298 x300).bind fun p302 => if p293.1 = p302.1 then k18 p302.2 v0 v1 v2 (v3 + (7 : Int32)) else some ((0 : Int32), p302.2) else if (x10 &&& (31 : Int32)) = 16 then (aI A v0 0 (v3 + (1 : Int32))).bind fun x307 => (aI A v0 0 (v3 + (2 : Int32))).bind fun x309 => (f_X10_idle N A v1 x307 x309).bind fun p311 => (aI p311.2 v0 0 (v3 + (1 : Int32))).bind fun x314 => (aI p311.2 v0 0 (v3 + (2 : Int32))).bind fun x316 => (f_X11_idle N p311.2 v2 x314 x316).bind fun p318 => if p311.1 = p318.1 then k18 p318.2 v0 v1 v2 (v3 + (7 : Int32)) else some ((0 : Int32), p318.2) else if (x10 &&& (31 : Int32)) = 17 then (aI A v0 0 (v3 + (1 : Int32))).bind fun x323 => (aI A v0 0 (v3 + (2 : Int32))).bind fun x325 => (f_X10_more N A v1 x323 x325).bind fun p327 => (aI p327.2 v0 0 (v3 + (1 : Int32))).bind fun x330 => (aI p327.2 v0 0 (v3 + (2 : Int32))).bind fun x332 => (f_X11_more N p327.2 v2 x330 x332).bind fun p334 => if p327.1 = p334.1 then k18 p334.2 v0 v1 v2 (v3 + (7 : Int32)) else some ((0 : Int32), p334.2) else if (x10 &&& (31 : Int32)) = 18 then (aI A v0 0 (v3 + (1 : Int32))).bind fun x339 => (aI A v0 0 (v3 + (2 : Int32))).bind fun x341 => (aI A v0 0 (v3 + (3 : Int32))).bind fun x343 => (f_X10_unlike N A v1 x339 x341 x343).bind fun p345 => (aI p345.2 v0 0 (v3 + (1 : Int32))).bind fun x348 => (aI p345.2 v0 0 (v3 + (2 : Int32))).bind fun x350 => (aI p345.2 v0 0 (v3 + (3 : Int32))).bind fun x352 => (f_X11_unlike N p345.2 v2 x348 x350 x352).bind fun p354 => if p345.1 = p354.1 then k18 p354.2 v0 v1 v2 (v3 + (7 : Int32)) else some ((0 : Int32), p354.2) else if (x10 &&& (31 : Int32)) = 19 then (aI A v0 0 (v3 + (1 : Int32))).bind fun x359 => (f_X10_mend N A v1 x359).bind fun p361 => (aI p361.2 v0 0 (v3 + (1 : Int32))).bind fun x364 => (f_X11_mend N p361.2 v2 x364).bind fun p366 => if p361.1 = p366.1 then k18 p366.2 v0 v1 v2 (v3 + (7 : Int32)) else some ((0 : Int32), p366.2) else if (x10 &&& (31 : Int32)) = 20 then (aI A v0 0 (v3 + (1 : Int32))).bind fun x371 => (aI A v0 0 (v3 + (2 : Int32))).bind fun x373 => (f_X10_change N A v1 x371 x373).bind fun p375 => (aI A v0 0 (v3 + (1 : Int32))).bind fun x378 => (aI A v0 0 (v3 + (2 : Int32))).bind fun x380 => (f_X11_change A v2 x378 x380).bind fun p382 => if p375 = p382.1 then k18 p382.2 v0 v1 v2 (v3 + (7 : Int32)) else some ((0 : Int32), p382.2) else if (x10 &&& (31 : Int32)) = 21 then (f_X10_apply N A v1).bind fun p387 => (f_X11_apply N p387.2 v2).bind fun p390 => if p387.1 = p390.1 then k18 p390.2 v0 v1 v2 (v3 + (7 : Int32)) else some ((0 : Int32), p390.2) else if (x10 &&& (31 : Int32)) = 22 then (aI A v0 0 (v3 + (1 : Int32))).bind fun x395 => (aI A v0 0 (v3 + (2 : Int32))).bind fun x397 => (aI A v0 0 (v3 + (3 : Int32))).bind fun x399 => (f_X10_line A v1 x395 x397 x399).bind fun p401 => (aI A v0 0 (v3 + (1 : Int32))).bind fun x404 => (aI A v0 0 (v3 + (2 : Int32))).bind fun x406 => (aI A v0 0 (v3 + (3 : Int32))).bind fun x408 => (f_X11_line A v2 x404 x406 x408).bind fun p410 => if p401 = p410.1 then k18 p410.2 v0 v1 v2 (v3 + (7 : Int32)) else some ((0 : Int32), p410.2) else if (x10 &&& (31 : Int32)) = 23 then (aI A v0 0 (v3 + (1 : Int32))).bind fun x415 => (f_X10_count N A v1 x415).bind fun p417 => (aI A v0 0 (v3 + (1 : Int32))).bind fun x420 => (f_X11_count N A v2 x420).bind fun p422 => if p417 = p422.1 then k18 p422.2 v0 v1 v2 (v3 + (7 : Int32)) else some ((0 : Int32), p422.2) else if (x10 &&& (31 : Int32)) = 24 then (aI A v0 0 (v3 + (1 : Int32))).bind fun x427 => (f_X10_image N A v1 x427).bind fun p429 => (aI p429.2 v0 0 (v3 + (1 : Int32))).bind fun x432 => (f_X11_image N p429.2 v2 x432).bind fun p434 => if p429.1 = p434.1 then k18 p434.2 v0 v1 v2 (v3 + (7 : Int32)) else some ((0 : Int32), p434.2) else if (x10 &&& (31 : Int32)) = 25 then (aI A v0 0 (v3 + (1 : Int32))).bind fun x439 => (f_X10_again N A v1 x439).bind fun p441 => (aI p441.2 v0 0 (v3 + (1 : Int32))).bind fun x444 => (f_X11_again N p441.2 v2 x444).bind fun p446 => if p441.1 = p446.1 then k18 p446.2 v0 v1 v2 (v3 + (7 : Int32)) else some ((0 : Int32), p446.2) else k18 A v0 v1 v2 (v3 + (7 : Int32))
set_option maxRecDepth 4000 in
theorem wb_L_law_18 {g : GG} {n0 z0 : Nat} (N : Nat) {k18 : LH → Option Nat → Option Nat → Option Nat → Int32 → Option (Int32 × LH)} {A : LH} {v0 : Option Nat} {v1 : Option Nat} {v2 : Option Nat} {v3 : Int32} {p : Int32 × LH} (hk18 : ∀ {A : LH} {v0 : Option Nat} {v1 : Option Nat} {v2 : Option Nat} {v3 : Int32} {p : Int32 × LH}, k18 A v0 v1 v2 v3 = some p → V g m_L_law 51 n0 z0 (some (LI p.1)) p.2 A 18 [some (LR v0), some (LR v1), some (LR v2), some (LI v3)] []) (h : b_L_law_18 N k18 A v0 v1 v2 v3 = some p) : V g m_L_law 51 n0 z0 (some (LI p.1)) p.2 A 18 [some (LR v0), some (LR v1), some (LR v2), some (LI v3)] [] := by
  unfold b_L_law_18 at h
  refine V.iload_n dL_law_18 rfl rfl ?_
  refine V.aload_n dL_law_19 rfl rfl ?_
  obtain ⟨x7, h8, h⟩ := bnd h
  refine V.alen (ln6_l h8) (ln6_t h8) dL_law_20 ?_
  refine V.bipush dL_law_21 kb_7 ?_
  refine V.isub dL_law_23 ?_
  refine V.icmp_gt (tgt := 1084) dL_law_24 (by decide) (fun c9 => ?_) (fun c9 => ?_)
  · have h := (if_pos c9).symm.trans h
    refine V.iconst dL_law_1084 ki_1 ?_
    obtain rfl := Option.some.inj h
    exact V.ireturn dL_law_1085
  · have h := (if_neg c9).symm.trans h
    refine V.aload_n dL_law_27 rfl rfl ?_
    refine V.iload_n dL_law_28 rfl rfl ?_
    obtain ⟨x10, h11, h⟩ := bnd h
    refine V.iald h11 dL_law_29 ?_
    refine V.bipush dL_law_30 kb_31 ?_
    refine V.iand dL_law_32 ?_
    by_cases c12 : (x10 &&& (31 : Int32)) = 0
    · have h := (if_pos c12).symm.trans h
      refine V.tableIn (tgt := 152) (off := 119) dL_law_33 (by rw [c12]; decide) (by rw [c12]; decide) (by rw [c12]; decide) (by decide) ?_
      refine V.aload_n dL_law_152 rfl rfl ?_
      refine V.aload_n dL_law_153 rfl rfl ?_
      refine V.iload_n dL_law_154 rfl rfl ?_
      refine V.iconst dL_law_155 ki_1 ?_
      refine V.iadd dL_law_156 ?_
      obtain ⟨x13, h14, h⟩ := bnd h
      refine V.iald h14 dL_law_157 ?_
      refine V.aload_n dL_law_158 rfl rfl ?_
      refine V.iload_n dL_law_159 rfl rfl ?_
      refine V.iconst dL_law_160 ki_2 ?_
      refine V.iadd dL_law_161 ?_
      obtain ⟨x15, h16, h⟩ := bnd h
      refine V.iald h16 dL_law_162 ?_
      refine V.aload_n dL_law_163 rfl rfl ?_
      refine V.iload_n dL_law_164 rfl rfl ?_
      refine V.iconst dL_law_165 ki_3 ?_
      refine V.iadd dL_law_166 ?_
      obtain ⟨x17, h18, h⟩ := bnd h
      refine V.iald h18 dL_law_167 ?_
      refine V.aload_n dL_law_168 rfl rfl ?_
      refine V.iload_n dL_law_169 rfl rfl ?_
      refine V.iconst dL_law_170 ki_4 ?_
      refine V.iadd dL_law_171 ?_
      obtain ⟨x19, h20, h⟩ := bnd h
      refine V.iald h20 dL_law_172 ?_
      refine V.aload_n dL_law_173 rfl rfl ?_
      refine V.iload_n dL_law_174 rfl rfl ?_
      refine V.iconst dL_law_175 ki_5 ?_
      refine V.iadd dL_law_176 ?_
      obtain ⟨x21, h22, h⟩ := bnd h
      refine V.iald h22 dL_law_177 ?_
      obtain ⟨p23, h24, h⟩ := bnd h
      have w25 := w_X10_feed (g := g) N h24
      refine V.callVi (args := [LI x13, LI x15, LI x17, LI x19, LI x21]) (st := []) w25.1 (oo_X10_feed h24) mk_X10_feed w25.2 vc_10 ml_RL_13 im_X10_feed se_X10_feed rfl (Nat.le_of_ble_eq_true rfl) (by decide) rfl (Nat.le_of_ble_eq_true rfl) dL_law_178 ?_
      refine V.aload_n dL_law_181 rfl rfl ?_
      refine V.aload_n dL_law_182 rfl rfl ?_
      refine V.iload_n dL_law_183 rfl rfl ?_
      refine V.iconst dL_law_184 ki_1 ?_
      refine V.iadd dL_law_185 ?_
      obtain ⟨x26, h27, h⟩ := bnd h
      refine V.iald h27 dL_law_186 ?_
      refine V.aload_n dL_law_187 rfl rfl ?_
      refine V.iload_n dL_law_188 rfl rfl ?_
      refine V.iconst dL_law_189 ki_2 ?_
      refine V.iadd dL_law_190 ?_
      obtain ⟨x28, h29, h⟩ := bnd h
      refine V.iald h29 dL_law_191 ?_
      refine V.aload_n dL_law_192 rfl rfl ?_
      refine V.iload_n dL_law_193 rfl rfl ?_
      refine V.iconst dL_law_194 ki_3 ?_
      refine V.iadd dL_law_195 ?_
      obtain ⟨x30, h31, h⟩ := bnd h
      refine V.iald h31 dL_law_196 ?_
      refine V.aload_n dL_law_197 rfl rfl ?_
      refine V.iload_n dL_law_198 rfl rfl ?_
      refine V.iconst dL_law_199 ki_4 ?_
      refine V.iadd dL_law_200 ?_
      obtain ⟨x32, h33, h⟩ := bnd h
      refine V.iald h33 dL_law_201 ?_
      refine V.aload_n dL_law_202 rfl rfl ?_
      refine V.iload_n dL_law_203 rfl rfl ?_
      refine V.iconst dL_law_204 ki_5 ?_
      refine V.iadd dL_law_205 ?_
      obtain ⟨x34, h35, h⟩ := bnd h
      refine V.iald h35 dL_law_206 ?_
      obtain ⟨p36, h37, h⟩ := bnd h
      have w38 := w_X11_feed (g := g) N h37
      refine V.callVi (args := [LI x26, LI x28, LI x30, LI x32, LI x34]) (st := [LI p23.1]) w38.1 (oo_X11_feed h37) mk_X11_feed w38.2 vc_11 ml_RL_17 im_X11_feed se_X11_feed rfl (Nat.le_of_ble_eq_true rfl) (by decide) rfl (Nat.le_of_ble_eq_true rfl) dL_law_207 ?_
      refine V.icmp_eq (tgt := 1078) dL_law_210 (by decide) (fun c39 => ?_) (fun c39 => ?_)
      · have h := (if_pos c39).symm.trans h
        refine V.iinc (ls' := [some (LR v0), some (LR v1), some (LR v2), some (LI (v3 + (7 : Int32)))]) dL_law_1078 rfl ki_7 (by decide) rfl rfl ?_
        refine V.goto (tgt := 18) dL_law_1081 (by decide) ?_
        refine V.weak [true, true, true, true] ?_
        exact hk18 h
      · have h := (if_neg c39).symm.trans h
        refine V.iconst dL_law_213 ki_0 ?_
        obtain rfl := Option.some.inj h
        exact V.ireturn dL_law_214
    have h := (if_neg c12).symm.trans h
    by_cases c40 : (x10 &&& (31 : Int32)) = 1
    · have h := (if_pos c40).symm.trans h
      refine V.tableIn (tgt := 215) (off := 182) dL_law_33 (by rw [c40]; decide) (by rw [c40]; decide) (by rw [c40]; decide) (by decide) ?_
      refine V.aload_n dL_law_215 rfl rfl ?_
      refine V.aload_n dL_law_216 rfl rfl ?_
      refine V.iload_n dL_law_217 rfl rfl ?_
      refine V.iconst dL_law_218 ki_1 ?_
      refine V.iadd dL_law_219 ?_
      obtain ⟨x41, h42, h⟩ := bnd h
      refine V.iald h42 dL_law_220 ?_
      obtain ⟨p43, h44, h⟩ := bnd h
      have w45 := w_X10_end (g := g) h44
      refine V.callVi (args := [LI x41]) (st := []) w45.1 (oo_X10_end h44) mk_X10_end w45.2 vc_10 ml_RL_18 im_X10_end se_X10_end rfl (Nat.le_of_ble_eq_true rfl) (by decide) rfl (Nat.le_of_ble_eq_true rfl) dL_law_221 ?_
      refine V.aload_n dL_law_224 rfl rfl ?_
      refine V.aload_n dL_law_225 rfl rfl ?_
      refine V.iload_n dL_law_226 rfl rfl ?_
      refine V.iconst dL_law_227 ki_1 ?_
      refine V.iadd dL_law_228 ?_
      obtain ⟨x46, h47, h⟩ := bnd h
      refine V.iald h47 dL_law_229 ?_
      obtain ⟨p48, h49, h⟩ := bnd h
      have w50 := w_X11_end (g := g) h49
      refine V.callVi (args := [LI x46]) (st := [LI p43.1]) w50.1 (oo_X11_end h49) mk_X11_end w50.2 vc_11 ml_RL_22 im_X11_end se_X11_end rfl (Nat.le_of_ble_eq_true rfl) (by decide) rfl (Nat.le_of_ble_eq_true rfl) dL_law_230 ?_
      refine V.icmp_eq (tgt := 1078) dL_law_233 (by decide) (fun c51 => ?_) (fun c51 => ?_)
      · have h := (if_pos c51).symm.trans h
        refine V.iinc (ls' := [some (LR v0), some (LR v1), some (LR v2), some (LI (v3 + (7 : Int32)))]) dL_law_1078 rfl ki_7 (by decide) rfl rfl ?_
        refine V.goto (tgt := 18) dL_law_1081 (by decide) ?_
        refine V.weak [true, true, true, true] ?_
        exact hk18 h
      · have h := (if_neg c51).symm.trans h
        refine V.iconst dL_law_236 ki_0 ?_
        obtain rfl := Option.some.inj h
        exact V.ireturn dL_law_237
    have h := (if_neg c40).symm.trans h
    by_cases c52 : (x10 &&& (31 : Int32)) = 2
    · have h := (if_pos c52).symm.trans h
      refine V.tableIn (tgt := 238) (off := 205) dL_law_33 (by rw [c52]; decide) (by rw [c52]; decide) (by rw [c52]; decide) (by decide) ?_
      refine V.aload_n dL_law_238 rfl rfl ?_
      refine V.aload_n dL_law_239 rfl rfl ?_
      refine V.iload_n dL_law_240 rfl rfl ?_
      refine V.iconst dL_law_241 ki_1 ?_
      refine V.iadd dL_law_242 ?_
      obtain ⟨x53, h54, h⟩ := bnd h
      refine V.iald h54 dL_law_243 ?_
      obtain ⟨p55, h56, h⟩ := bnd h
      have w57 := w_X10_rules (g := g) N h56
      refine V.callVi (args := [LI x53]) (st := []) w57.1 (oo_X10_rules h56) mk_X10_rules w57.2 vc_10 ml_RL_23 im_X10_rules se_X10_rules rfl (Nat.le_of_ble_eq_true rfl) (by decide) rfl (Nat.le_of_ble_eq_true rfl) dL_law_244 ?_
      refine V.aload_n dL_law_247 rfl rfl ?_
      refine V.aload_n dL_law_248 rfl rfl ?_
      refine V.iload_n dL_law_249 rfl rfl ?_
      refine V.iconst dL_law_250 ki_1 ?_
      refine V.iadd dL_law_251 ?_
      obtain ⟨x58, h59, h⟩ := bnd h
      refine V.iald h59 dL_law_252 ?_
      obtain ⟨p60, h61, h⟩ := bnd h
      have w62 := w_X11_rules (g := g) N h61
      refine V.callVi (args := [LI x58]) (st := [LI p55.1]) w62.1 (oo_X11_rules h61) mk_X11_rules w62.2 vc_11 ml_RL_26 im_X11_rules se_X11_rules rfl (Nat.le_of_ble_eq_true rfl) (by decide) rfl (Nat.le_of_ble_eq_true rfl) dL_law_253 ?_
      refine V.icmp_eq (tgt := 1078) dL_law_256 (by decide) (fun c63 => ?_) (fun c63 => ?_)
      · have h := (if_pos c63).symm.trans h
        refine V.iinc (ls' := [some (LR v0), some (LR v1), some (LR v2), some (LI (v3 + (7 : Int32)))]) dL_law_1078 rfl ki_7 (by decide) rfl rfl ?_
        refine V.goto (tgt := 18) dL_law_1081 (by decide) ?_
        refine V.weak [true, true, true, true] ?_
        exact hk18 h
      · have h := (if_neg c63).symm.trans h
        refine V.iconst dL_law_259 ki_0 ?_
        obtain rfl := Option.some.inj h
        exact V.ireturn dL_law_260
    have h := (if_neg c52).symm.trans h
    by_cases c64 : (x10 &&& (31 : Int32)) = 3
    · have h := (if_pos c64).symm.trans h
      refine V.tableIn (tgt := 261) (off := 228) dL_law_33 (by rw [c64]; decide) (by rw [c64]; decide) (by rw [c64]; decide) (by decide) ?_
      refine V.aload_n dL_law_261 rfl rfl ?_
      refine V.aload_n dL_law_262 rfl rfl ?_
      refine V.iload_n dL_law_263 rfl rfl ?_
      refine V.iconst dL_law_264 ki_1 ?_
      refine V.iadd dL_law_265 ?_
      obtain ⟨x65, h66, h⟩ := bnd h
      refine V.iald h66 dL_law_266 ?_
      obtain ⟨p67, h68, h⟩ := bnd h
      have w69 := w_X10_fault (g := g) h68
      refine V.callVi (args := [LI x65]) (st := []) w69.1 (oo_X10_fault h68) mk_X10_fault w69.2 vc_10 ml_RL_27 im_X10_fault se_X10_fault rfl (Nat.le_of_ble_eq_true rfl) (by decide) rfl (Nat.le_of_ble_eq_true rfl) dL_law_267 ?_
      refine V.aload_n dL_law_270 rfl rfl ?_
      refine V.aload_n dL_law_271 rfl rfl ?_
      refine V.iload_n dL_law_272 rfl rfl ?_
      refine V.iconst dL_law_273 ki_1 ?_
      refine V.iadd dL_law_274 ?_
      obtain ⟨x70, h71, h⟩ := bnd h
      refine V.iald h71 dL_law_275 ?_
      obtain ⟨p72, h73, h⟩ := bnd h
      have w74 := w_X11_fault (g := g) h73
      refine V.callVi (args := [LI x70]) (st := [LI p67]) w74.1 (oo_X11_fault h73) mk_X11_fault w74.2 vc_11 ml_RL_30 im_X11_fault se_X11_fault rfl (Nat.le_of_ble_eq_true rfl) (by decide) rfl (Nat.le_of_ble_eq_true rfl) dL_law_276 ?_
      refine V.icmp_eq (tgt := 1078) dL_law_279 (by decide) (fun c75 => ?_) (fun c75 => ?_)
      · have h := (if_pos c75).symm.trans h
        refine V.iinc (ls' := [some (LR v0), some (LR v1), some (LR v2), some (LI (v3 + (7 : Int32)))]) dL_law_1078 rfl ki_7 (by decide) rfl rfl ?_
        refine V.goto (tgt := 18) dL_law_1081 (by decide) ?_
        refine V.weak [true, true, true, true] ?_
        exact hk18 h
      · have h := (if_neg c75).symm.trans h
        refine V.iconst dL_law_282 ki_0 ?_
        obtain rfl := Option.some.inj h
        exact V.ireturn dL_law_283
    have h := (if_neg c64).symm.trans h
    by_cases c76 : (x10 &&& (31 : Int32)) = 4
    · have h := (if_pos c76).symm.trans h
      refine V.tableIn (tgt := 284) (off := 251) dL_law_33 (by rw [c76]; decide) (by rw [c76]; decide) (by rw [c76]; decide) (by decide) ?_
      refine V.aload_n dL_law_284 rfl rfl ?_
      refine V.aload_n dL_law_285 rfl rfl ?_
      refine V.iload_n dL_law_286 rfl rfl ?_
      refine V.iconst dL_law_287 ki_1 ?_
      refine V.iadd dL_law_288 ?_
      obtain ⟨x77, h78, h⟩ := bnd h
      refine V.iald h78 dL_law_289 ?_
      refine V.aload_n dL_law_290 rfl rfl ?_
      refine V.iload_n dL_law_291 rfl rfl ?_
      refine V.iconst dL_law_292 ki_2 ?_
      refine V.iadd dL_law_293 ?_
      obtain ⟨x79, h80, h⟩ := bnd h
      refine V.iald h80 dL_law_294 ?_
      obtain ⟨p81, h82, h⟩ := bnd h
      have w83 := w_X10_person (g := g) h82
      refine V.callVi (args := [LI x77, LI x79]) (st := []) w83.1 (oo_X10_person h82) mk_X10_person w83.2 vc_10 ml_RL_31 im_X10_person se_X10_person rfl (Nat.le_of_ble_eq_true rfl) (by decide) rfl (Nat.le_of_ble_eq_true rfl) dL_law_295 ?_
      refine V.aload_n dL_law_298 rfl rfl ?_
      refine V.aload_n dL_law_299 rfl rfl ?_
      refine V.iload_n dL_law_300 rfl rfl ?_
      refine V.iconst dL_law_301 ki_1 ?_
      refine V.iadd dL_law_302 ?_
      obtain ⟨x84, h85, h⟩ := bnd h
      refine V.iald h85 dL_law_303 ?_
      refine V.aload_n dL_law_304 rfl rfl ?_
      refine V.iload_n dL_law_305 rfl rfl ?_
      refine V.iconst dL_law_306 ki_2 ?_
      refine V.iadd dL_law_307 ?_
      obtain ⟨x86, h87, h⟩ := bnd h
      refine V.iald h87 dL_law_308 ?_
      obtain ⟨p88, h89, h⟩ := bnd h
      have w90 := w_X11_person (g := g) h89
      refine V.callVi (args := [LI x84, LI x86]) (st := [LI p81.1]) w90.1 (oo_X11_person h89) mk_X11_person w90.2 vc_11 ml_RL_35 im_X11_person se_X11_person rfl (Nat.le_of_ble_eq_true rfl) (by decide) rfl (Nat.le_of_ble_eq_true rfl) dL_law_309 ?_
      refine V.icmp_eq (tgt := 1078) dL_law_312 (by decide) (fun c91 => ?_) (fun c91 => ?_)
      · have h := (if_pos c91).symm.trans h
        refine V.iinc (ls' := [some (LR v0), some (LR v1), some (LR v2), some (LI (v3 + (7 : Int32)))]) dL_law_1078 rfl ki_7 (by decide) rfl rfl ?_
        refine V.goto (tgt := 18) dL_law_1081 (by decide) ?_
        refine V.weak [true, true, true, true] ?_
        exact hk18 h
      · have h := (if_neg c91).symm.trans h
        refine V.iconst dL_law_315 ki_0 ?_
        obtain rfl := Option.some.inj h
        exact V.ireturn dL_law_316
    have h := (if_neg c76).symm.trans h
    by_cases c92 : (x10 &&& (31 : Int32)) = 5
    · have h := (if_pos c92).symm.trans h
      refine V.tableIn (tgt := 317) (off := 284) dL_law_33 (by rw [c92]; decide) (by rw [c92]; decide) (by rw [c92]; decide) (by decide) ?_
      refine V.aload_n dL_law_317 rfl rfl ?_
      refine V.aload_n dL_law_318 rfl rfl ?_
      refine V.iload_n dL_law_319 rfl rfl ?_
      refine V.iconst dL_law_320 ki_1 ?_
      refine V.iadd dL_law_321 ?_
      obtain ⟨x93, h94, h⟩ := bnd h
      refine V.iald h94 dL_law_322 ?_
      refine V.aload_n dL_law_323 rfl rfl ?_
      refine V.iload_n dL_law_324 rfl rfl ?_
      refine V.iconst dL_law_325 ki_2 ?_
      refine V.iadd dL_law_326 ?_
      obtain ⟨x95, h96, h⟩ := bnd h
      refine V.iald h96 dL_law_327 ?_
      refine V.aload_n dL_law_328 rfl rfl ?_
      refine V.iload_n dL_law_329 rfl rfl ?_
      refine V.iconst dL_law_330 ki_3 ?_
      refine V.iadd dL_law_331 ?_
      obtain ⟨x97, h98, h⟩ := bnd h
      refine V.iald h98 dL_law_332 ?_
      obtain ⟨p99, h100, h⟩ := bnd h
      have w101 := w_X10_thing (g := g) h100
      refine V.callVi (args := [LI x93, LI x95, LI x97]) (st := []) w101.1 (oo_X10_thing h100) mk_X10_thing w101.2 vc_10 ml_RL_36 im_X10_thing se_X10_thing rfl (Nat.le_of_ble_eq_true rfl) (by decide) rfl (Nat.le_of_ble_eq_true rfl) dL_law_333 ?_
      refine V.aload_n dL_law_336 rfl rfl ?_
      refine V.aload_n dL_law_337 rfl rfl ?_
      refine V.iload_n dL_law_338 rfl rfl ?_
      refine V.iconst dL_law_339 ki_1 ?_
      refine V.iadd dL_law_340 ?_
      obtain ⟨x102, h103, h⟩ := bnd h
      refine V.iald h103 dL_law_341 ?_
      refine V.aload_n dL_law_342 rfl rfl ?_
      refine V.iload_n dL_law_343 rfl rfl ?_
      refine V.iconst dL_law_344 ki_2 ?_
      refine V.iadd dL_law_345 ?_
      obtain ⟨x104, h105, h⟩ := bnd h
      refine V.iald h105 dL_law_346 ?_
      refine V.aload_n dL_law_347 rfl rfl ?_
      refine V.iload_n dL_law_348 rfl rfl ?_
      refine V.iconst dL_law_349 ki_3 ?_
      refine V.iadd dL_law_350 ?_
      obtain ⟨x106, h107, h⟩ := bnd h
      refine V.iald h107 dL_law_351 ?_
      obtain ⟨p108, h109, h⟩ := bnd h
      have w110 := w_X11_thing (g := g) h109
      refine V.callVi (args := [LI x102, LI x104, LI x106]) (st := [LI p99.1]) w110.1 (oo_X11_thing h109) mk_X11_thing w110.2 vc_11 ml_RL_40 im_X11_thing se_X11_thing rfl (Nat.le_of_ble_eq_true rfl) (by decide) rfl (Nat.le_of_ble_eq_true rfl) dL_law_352 ?_
      refine V.icmp_eq (tgt := 1078) dL_law_355 (by decide) (fun c111 => ?_) (fun c111 => ?_)
      · have h := (if_pos c111).symm.trans h
        refine V.iinc (ls' := [some (LR v0), some (LR v1), some (LR v2), some (LI (v3 + (7 : Int32)))]) dL_law_1078 rfl ki_7 (by decide) rfl rfl ?_
        refine V.goto (tgt := 18) dL_law_1081 (by decide) ?_
        refine V.weak [true, true, true, true] ?_
        exact hk18 h
      · have h := (if_neg c111).symm.trans h
        refine V.iconst dL_law_358 ki_0 ?_
        obtain rfl := Option.some.inj h
        exact V.ireturn dL_law_359
    have h := (if_neg c92).symm.trans h
    by_cases c112 : (x10 &&& (31 : Int32)) = 6
    · have h := (if_pos c112).symm.trans h
      refine V.tableIn (tgt := 360) (off := 327) dL_law_33 (by rw [c112]; decide) (by rw [c112]; decide) (by rw [c112]; decide) (by decide) ?_
      refine V.aload_n dL_law_360 rfl rfl ?_
      refine V.aload_n dL_law_361 rfl rfl ?_
      refine V.iload_n dL_law_362 rfl rfl ?_
      refine V.iconst dL_law_363 ki_1 ?_
      refine V.iadd dL_law_364 ?_
      obtain ⟨x113, h114, h⟩ := bnd h
      refine V.iald h114 dL_law_365 ?_
      refine V.aload_n dL_law_366 rfl rfl ?_
      refine V.iload_n dL_law_367 rfl rfl ?_
      refine V.iconst dL_law_368 ki_2 ?_
      refine V.iadd dL_law_369 ?_
      obtain ⟨x115, h116, h⟩ := bnd h
      refine V.iald h116 dL_law_370 ?_
      refine V.aload_n dL_law_371 rfl rfl ?_
      refine V.iload_n dL_law_372 rfl rfl ?_
      refine V.iconst dL_law_373 ki_3 ?_
      refine V.iadd dL_law_374 ?_
      obtain ⟨x117, h118, h⟩ := bnd h
      refine V.iald h118 dL_law_375 ?_
      obtain ⟨p119, h120, h⟩ := bnd h
      have w121 := w_X10_moves (g := g) h120
      refine V.callVi (args := [LI x113, LI x115, LI x117]) (st := []) w121.1 (oo_X10_moves h120) mk_X10_moves w121.2 vc_10 ml_RL_41 im_X10_moves se_X10_moves rfl (Nat.le_of_ble_eq_true rfl) (by decide) rfl (Nat.le_of_ble_eq_true rfl) dL_law_376 ?_
      refine V.aload_n dL_law_379 rfl rfl ?_
      refine V.aload_n dL_law_380 rfl rfl ?_
      refine V.iload_n dL_law_381 rfl rfl ?_
      refine V.iconst dL_law_382 ki_1 ?_
      refine V.iadd dL_law_383 ?_
      obtain ⟨x122, h123, h⟩ := bnd h
      refine V.iald h123 dL_law_384 ?_
      refine V.aload_n dL_law_385 rfl rfl ?_
      refine V.iload_n dL_law_386 rfl rfl ?_
      refine V.iconst dL_law_387 ki_2 ?_
      refine V.iadd dL_law_388 ?_
      obtain ⟨x124, h125, h⟩ := bnd h
      refine V.iald h125 dL_law_389 ?_
      refine V.aload_n dL_law_390 rfl rfl ?_
      refine V.iload_n dL_law_391 rfl rfl ?_
      refine V.iconst dL_law_392 ki_3 ?_
      refine V.iadd dL_law_393 ?_
      obtain ⟨x126, h127, h⟩ := bnd h
      refine V.iald h127 dL_law_394 ?_
      obtain ⟨p128, h129, h⟩ := bnd h
      have w130 := w_X11_moves (g := g) h129
      refine V.callVi (args := [LI x122, LI x124, LI x126]) (st := [LI p119.1]) w130.1 (oo_X11_moves h129) mk_X11_moves w130.2 vc_11 ml_RL_45 im_X11_moves se_X11_moves rfl (Nat.le_of_ble_eq_true rfl) (by decide) rfl (Nat.le_of_ble_eq_true rfl) dL_law_395 ?_
      refine V.icmp_eq (tgt := 1078) dL_law_398 (by decide) (fun c131 => ?_) (fun c131 => ?_)
      · have h := (if_pos c131).symm.trans h
        refine V.iinc (ls' := [some (LR v0), some (LR v1), some (LR v2), some (LI (v3 + (7 : Int32)))]) dL_law_1078 rfl ki_7 (by decide) rfl rfl ?_
        refine V.goto (tgt := 18) dL_law_1081 (by decide) ?_
        refine V.weak [true, true, true, true] ?_
        exact hk18 h
      · have h := (if_neg c131).symm.trans h
        refine V.iconst dL_law_401 ki_0 ?_
        obtain rfl := Option.some.inj h
        exact V.ireturn dL_law_402
    have h := (if_neg c112).symm.trans h
    by_cases c132 : (x10 &&& (31 : Int32)) = 7
    · have h := (if_pos c132).symm.trans h
      refine V.tableIn (tgt := 403) (off := 370) dL_law_33 (by rw [c132]; decide) (by rw [c132]; decide) (by rw [c132]; decide) (by decide) ?_
      refine V.aload_n dL_law_403 rfl rfl ?_
      refine V.aload_n dL_law_404 rfl rfl ?_
      refine V.iload_n dL_law_405 rfl rfl ?_
      refine V.iconst dL_law_406 ki_1 ?_
      refine V.iadd dL_law_407 ?_
      obtain ⟨x133, h134, h⟩ := bnd h
      refine V.iald h134 dL_law_408 ?_
      refine V.aload_n dL_law_409 rfl rfl ?_
      refine V.iload_n dL_law_410 rfl rfl ?_
      refine V.iconst dL_law_411 ki_2 ?_
      refine V.iadd dL_law_412 ?_
      obtain ⟨x135, h136, h⟩ := bnd h
      refine V.iald h136 dL_law_413 ?_
      refine V.aload_n dL_law_414 rfl rfl ?_
      refine V.iload_n dL_law_415 rfl rfl ?_
      refine V.iconst dL_law_416 ki_3 ?_
      refine V.iadd dL_law_417 ?_
      obtain ⟨x137, h138, h⟩ := bnd h
      refine V.iald h138 dL_law_418 ?_
      obtain ⟨p139, h140, h⟩ := bnd h
      have w141 := w_X10_gives (g := g) h140
      refine V.callVi (args := [LI x133, LI x135, LI x137]) (st := []) w141.1 (oo_X10_gives h140) mk_X10_gives w141.2 vc_10 ml_RL_46 im_X10_gives se_X10_gives rfl (Nat.le_of_ble_eq_true rfl) (by decide) rfl (Nat.le_of_ble_eq_true rfl) dL_law_419 ?_
      refine V.aload_n dL_law_422 rfl rfl ?_
      refine V.aload_n dL_law_423 rfl rfl ?_
      refine V.iload_n dL_law_424 rfl rfl ?_
      refine V.iconst dL_law_425 ki_1 ?_
      refine V.iadd dL_law_426 ?_
      obtain ⟨x142, h143, h⟩ := bnd h
      refine V.iald h143 dL_law_427 ?_
      refine V.aload_n dL_law_428 rfl rfl ?_
      refine V.iload_n dL_law_429 rfl rfl ?_
      refine V.iconst dL_law_430 ki_2 ?_
      refine V.iadd dL_law_431 ?_
      obtain ⟨x144, h145, h⟩ := bnd h
      refine V.iald h145 dL_law_432 ?_
      refine V.aload_n dL_law_433 rfl rfl ?_
      refine V.iload_n dL_law_434 rfl rfl ?_
      refine V.iconst dL_law_435 ki_3 ?_
      refine V.iadd dL_law_436 ?_
      obtain ⟨x146, h147, h⟩ := bnd h
      refine V.iald h147 dL_law_437 ?_
      obtain ⟨p148, h149, h⟩ := bnd h
      have w150 := w_X11_gives (g := g) h149
      refine V.callVi (args := [LI x142, LI x144, LI x146]) (st := [LI p139.1]) w150.1 (oo_X11_gives h149) mk_X11_gives w150.2 vc_11 ml_RL_49 im_X11_gives se_X11_gives rfl (Nat.le_of_ble_eq_true rfl) (by decide) rfl (Nat.le_of_ble_eq_true rfl) dL_law_438 ?_
      refine V.icmp_eq (tgt := 1078) dL_law_441 (by decide) (fun c151 => ?_) (fun c151 => ?_)
      · have h := (if_pos c151).symm.trans h
        refine V.iinc (ls' := [some (LR v0), some (LR v1), some (LR v2), some (LI (v3 + (7 : Int32)))]) dL_law_1078 rfl ki_7 (by decide) rfl rfl ?_
        refine V.goto (tgt := 18) dL_law_1081 (by decide) ?_
        refine V.weak [true, true, true, true] ?_
        exact hk18 h
      · have h := (if_neg c151).symm.trans h
        refine V.iconst dL_law_444 ki_0 ?_
        obtain rfl := Option.some.inj h
        exact V.ireturn dL_law_445
    have h := (if_neg c132).symm.trans h
    by_cases c152 : (x10 &&& (31 : Int32)) = 8
    · have h := (if_pos c152).symm.trans h
      refine V.tableIn (tgt := 446) (off := 413) dL_law_33 (by rw [c152]; decide) (by rw [c152]; decide) (by rw [c152]; decide) (by decide) ?_
      refine V.aload_n dL_law_446 rfl rfl ?_
      refine V.aload_n dL_law_447 rfl rfl ?_
      refine V.iload_n dL_law_448 rfl rfl ?_
      refine V.iconst dL_law_449 ki_1 ?_
      refine V.iadd dL_law_450 ?_
      obtain ⟨x153, h154, h⟩ := bnd h
      refine V.iald h154 dL_law_451 ?_
      refine V.aload_n dL_law_452 rfl rfl ?_
      refine V.iload_n dL_law_453 rfl rfl ?_
      refine V.iconst dL_law_454 ki_2 ?_
      refine V.iadd dL_law_455 ?_
      obtain ⟨x155, h156, h⟩ := bnd h
      refine V.iald h156 dL_law_456 ?_
      obtain ⟨p157, h158, h⟩ := bnd h
      have w159 := w_X10_tell (g := g) h158
      refine V.callVi (args := [LI x153, LI x155]) (st := []) w159.1 (oo_X10_tell h158) mk_X10_tell w159.2 vc_10 ml_RL_50 im_X10_tell se_X10_tell rfl (Nat.le_of_ble_eq_true rfl) (by decide) rfl (Nat.le_of_ble_eq_true rfl) dL_law_457 ?_
      refine V.aload_n dL_law_460 rfl rfl ?_
      refine V.aload_n dL_law_461 rfl rfl ?_
      refine V.iload_n dL_law_462 rfl rfl ?_
      refine V.iconst dL_law_463 ki_1 ?_
      refine V.iadd dL_law_464 ?_
      obtain ⟨x160, h161, h⟩ := bnd h
      refine V.iald h161 dL_law_465 ?_
      refine V.aload_n dL_law_466 rfl rfl ?_
      refine V.iload_n dL_law_467 rfl rfl ?_
      refine V.iconst dL_law_468 ki_2 ?_
      refine V.iadd dL_law_469 ?_
      obtain ⟨x162, h163, h⟩ := bnd h
      refine V.iald h163 dL_law_470 ?_
      obtain ⟨p164, h165, h⟩ := bnd h
      have w166 := w_X11_tell (g := g) h165
      refine V.callVi (args := [LI x160, LI x162]) (st := [LI p157]) w166.1 (oo_X11_tell h165) mk_X11_tell w166.2 vc_11 ml_RL_53 im_X11_tell se_X11_tell rfl (Nat.le_of_ble_eq_true rfl) (by decide) rfl (Nat.le_of_ble_eq_true rfl) dL_law_471 ?_
      refine V.icmp_eq (tgt := 1078) dL_law_474 (by decide) (fun c167 => ?_) (fun c167 => ?_)
      · have h := (if_pos c167).symm.trans h
        refine V.iinc (ls' := [some (LR v0), some (LR v1), some (LR v2), some (LI (v3 + (7 : Int32)))]) dL_law_1078 rfl ki_7 (by decide) rfl rfl ?_
        refine V.goto (tgt := 18) dL_law_1081 (by decide) ?_
        refine V.weak [true, true, true, true] ?_
        exact hk18 h
      · have h := (if_neg c167).symm.trans h
        refine V.iconst dL_law_477 ki_0 ?_
        obtain rfl := Option.some.inj h
        exact V.ireturn dL_law_478
    have h := (if_neg c152).symm.trans h
    by_cases c168 : (x10 &&& (31 : Int32)) = 9
    · have h := (if_pos c168).symm.trans h
      refine V.tableIn (tgt := 479) (off := 446) dL_law_33 (by rw [c168]; decide) (by rw [c168]; decide) (by rw [c168]; decide) (by decide) ?_
      refine V.aload_n dL_law_479 rfl rfl ?_
      refine V.aload_n dL_law_480 rfl rfl ?_
      refine V.iload_n dL_law_481 rfl rfl ?_
      refine V.iconst dL_law_482 ki_1 ?_
      refine V.iadd dL_law_483 ?_
      obtain ⟨x169, h170, h⟩ := bnd h
      refine V.iald h170 dL_law_484 ?_
      refine V.aload_n dL_law_485 rfl rfl ?_
      refine V.iload_n dL_law_486 rfl rfl ?_
      refine V.iconst dL_law_487 ki_2 ?_
      refine V.iadd dL_law_488 ?_
      obtain ⟨x171, h172, h⟩ := bnd h
      refine V.iald h172 dL_law_489 ?_
      refine V.aload_n dL_law_490 rfl rfl ?_
      refine V.iload_n dL_law_491 rfl rfl ?_
      refine V.iconst dL_law_492 ki_3 ?_
      refine V.iadd dL_law_493 ?_
      obtain ⟨x173, h174, h⟩ := bnd h
      refine V.iald h174 dL_law_494 ?_
      refine V.aload_n dL_law_495 rfl rfl ?_
      refine V.iload_n dL_law_496 rfl rfl ?_
      refine V.iconst dL_law_497 ki_4 ?_
      refine V.iadd dL_law_498 ?_
      obtain ⟨x175, h176, h⟩ := bnd h
      refine V.iald h176 dL_law_499 ?_
      refine V.aload_n dL_law_500 rfl rfl ?_
      refine V.iload_n dL_law_501 rfl rfl ?_
      refine V.iconst dL_law_502 ki_5 ?_
      refine V.iadd dL_law_503 ?_
      obtain ⟨x177, h178, h⟩ := bnd h
      refine V.iald h178 dL_law_504 ?_
      refine V.aload_n dL_law_505 rfl rfl ?_
      refine V.iload_n dL_law_506 rfl rfl ?_
      refine V.bipush dL_law_507 kb_6 ?_
      refine V.iadd dL_law_509 ?_
      obtain ⟨x179, h180, h⟩ := bnd h
      refine V.iald h180 dL_law_510 ?_
      refine V.if_eq (tgt := 518) dL_law_511 (by decide) (fun c181 => ?_) (fun c181 => ?_)
      · have h := (if_pos c181).symm.trans h
        refine V.iconst dL_law_518 ki_0 ?_
        refine V.weak [true, true, true, true] ?_
        exact wb_L_law_519 N hk18 h
      · have h := (if_neg c181).symm.trans h
        refine V.iconst dL_law_514 ki_1 ?_
        refine V.goto (tgt := 519) dL_law_515 (by decide) ?_
        refine V.weak [true, true, true, true] ?_
        exact wb_L_law_519 N hk18 h
    have h := (if_neg c168).symm.trans h
    by_cases c202 : (x10 &&& (31 : Int32)) = 10
    · have h := (if_pos c202).symm.trans h
      refine V.tableIn (tgt := 570) (off := 537) dL_law_33 (by rw [c202]; decide) (by rw [c202]; decide) (by rw [c202]; decide) (by decide) ?_
      refine V.aload_n dL_law_570 rfl rfl ?_
      refine V.aload_n dL_law_571 rfl rfl ?_
      refine V.iload_n dL_law_572 rfl rfl ?_
      refine V.iconst dL_law_573 ki_1 ?_
      refine V.iadd dL_law_574 ?_
      obtain ⟨x203, h204, h⟩ := bnd h
      refine V.iald h204 dL_law_575 ?_
      refine V.aload_n dL_law_576 rfl rfl ?_
      refine V.iload_n dL_law_577 rfl rfl ?_
      refine V.iconst dL_law_578 ki_2 ?_
      refine V.iadd dL_law_579 ?_
      obtain ⟨x205, h206, h⟩ := bnd h
      refine V.iald h206 dL_law_580 ?_
      refine V.aload_n dL_law_581 rfl rfl ?_
      refine V.iload_n dL_law_582 rfl rfl ?_
      refine V.iconst dL_law_583 ki_3 ?_
      refine V.iadd dL_law_584 ?_
      obtain ⟨x207, h208, h⟩ := bnd h
      refine V.iald h208 dL_law_585 ?_
      refine V.aload_n dL_law_586 rfl rfl ?_
      refine V.iload_n dL_law_587 rfl rfl ?_
      refine V.iconst dL_law_588 ki_4 ?_
      refine V.iadd dL_law_589 ?_
      obtain ⟨x209, h210, h⟩ := bnd h
      refine V.iald h210 dL_law_590 ?_
      obtain ⟨p211, h212, h⟩ := bnd h
      have w213 := w_X10_ask (g := g) h212
      refine V.callVi (args := [LI x203, LI x205, LI x207, LI x209]) (st := []) w213.1 (oo_X10_ask h212) mk_X10_ask w213.2 vc_10 ml_RL_59 im_X10_ask se_X10_ask rfl (Nat.le_of_ble_eq_true rfl) (by decide) rfl (Nat.le_of_ble_eq_true rfl) dL_law_591 ?_
      refine V.aload_n dL_law_594 rfl rfl ?_
      refine V.aload_n dL_law_595 rfl rfl ?_
      refine V.iload_n dL_law_596 rfl rfl ?_
      refine V.iconst dL_law_597 ki_1 ?_
      refine V.iadd dL_law_598 ?_
      obtain ⟨x214, h215, h⟩ := bnd h
      refine V.iald h215 dL_law_599 ?_
      refine V.aload_n dL_law_600 rfl rfl ?_
      refine V.iload_n dL_law_601 rfl rfl ?_
      refine V.iconst dL_law_602 ki_2 ?_
      refine V.iadd dL_law_603 ?_
      obtain ⟨x216, h217, h⟩ := bnd h
      refine V.iald h217 dL_law_604 ?_
      refine V.aload_n dL_law_605 rfl rfl ?_
      refine V.iload_n dL_law_606 rfl rfl ?_
      refine V.iconst dL_law_607 ki_3 ?_
      refine V.iadd dL_law_608 ?_
      obtain ⟨x218, h219, h⟩ := bnd h
      refine V.iald h219 dL_law_609 ?_
      refine V.aload_n dL_law_610 rfl rfl ?_
      refine V.iload_n dL_law_611 rfl rfl ?_
      refine V.iconst dL_law_612 ki_4 ?_
      refine V.iadd dL_law_613 ?_
      obtain ⟨x220, h221, h⟩ := bnd h
      refine V.iald h221 dL_law_614 ?_
      obtain ⟨p222, h223, h⟩ := bnd h
      have w224 := w_X11_ask (g := g) h223
      refine V.callVi (args := [LI x214, LI x216, LI x218, LI x220]) (st := [LI p211.1]) w224.1 (oo_X11_ask h223) mk_X11_ask w224.2 vc_11 ml_RL_63 im_X11_ask se_X11_ask rfl (Nat.le_of_ble_eq_true rfl) (by decide) rfl (Nat.le_of_ble_eq_true rfl) dL_law_615 ?_
      refine V.icmp_eq (tgt := 1078) dL_law_618 (by decide) (fun c225 => ?_) (fun c225 => ?_)
      · have h := (if_pos c225).symm.trans h
        refine V.iinc (ls' := [some (LR v0), some (LR v1), some (LR v2), some (LI (v3 + (7 : Int32)))]) dL_law_1078 rfl ki_7 (by decide) rfl rfl ?_
        refine V.goto (tgt := 18) dL_law_1081 (by decide) ?_
        refine V.weak [true, true, true, true] ?_
        exact hk18 h
      · have h := (if_neg c225).symm.trans h
        refine V.iconst dL_law_621 ki_0 ?_
        obtain rfl := Option.some.inj h
        exact V.ireturn dL_law_622
    have h := (if_neg c202).symm.trans h
    by_cases c226 : (x10 &&& (31 : Int32)) = 11
    · have h := (if_pos c226).symm.trans h
      refine V.tableIn (tgt := 623) (off := 590) dL_law_33 (by rw [c226]; decide) (by rw [c226]; decide) (by rw [c226]; decide) (by decide) ?_
      refine V.aload_n dL_law_623 rfl rfl ?_
      refine V.aload_n dL_law_624 rfl rfl ?_
      refine V.iload_n dL_law_625 rfl rfl ?_
      refine V.iconst dL_law_626 ki_1 ?_
      refine V.iadd dL_law_627 ?_
      obtain ⟨x227, h228, h⟩ := bnd h
      refine V.iald h228 dL_law_628 ?_
      refine V.aload_n dL_law_629 rfl rfl ?_
      refine V.iload_n dL_law_630 rfl rfl ?_
      refine V.iconst dL_law_631 ki_2 ?_
      refine V.iadd dL_law_632 ?_
      obtain ⟨x229, h230, h⟩ := bnd h
      refine V.iald h230 dL_law_633 ?_
      obtain ⟨p231, h232, h⟩ := bnd h
      have w233 := w_X10_mark (g := g) h232
      refine V.callVi (args := [LI x227, LI x229]) (st := []) w233.1 (oo_X10_mark h232) mk_X10_mark w233.2 vc_10 ml_RL_64 im_X10_mark se_X10_mark rfl (Nat.le_of_ble_eq_true rfl) (by decide) rfl (Nat.le_of_ble_eq_true rfl) dL_law_634 ?_
      refine V.aload_n dL_law_637 rfl rfl ?_
      refine V.aload_n dL_law_638 rfl rfl ?_
      refine V.iload_n dL_law_639 rfl rfl ?_
      refine V.iconst dL_law_640 ki_1 ?_
      refine V.iadd dL_law_641 ?_
      obtain ⟨x234, h235, h⟩ := bnd h
      refine V.iald h235 dL_law_642 ?_
      refine V.aload_n dL_law_643 rfl rfl ?_
      refine V.iload_n dL_law_644 rfl rfl ?_
      refine V.iconst dL_law_645 ki_2 ?_
      refine V.iadd dL_law_646 ?_
      obtain ⟨x236, h237, h⟩ := bnd h
      refine V.iald h237 dL_law_647 ?_
      obtain ⟨p238, h239, h⟩ := bnd h
      have w240 := w_X11_mark (g := g) h239
      refine V.callVi (args := [LI x234, LI x236]) (st := [LI p231.1]) w240.1 (oo_X11_mark h239) mk_X11_mark w240.2 vc_11 ml_RL_68 im_X11_mark se_X11_mark rfl (Nat.le_of_ble_eq_true rfl) (by decide) rfl (Nat.le_of_ble_eq_true rfl) dL_law_648 ?_
      refine V.icmp_eq (tgt := 1078) dL_law_651 (by decide) (fun c241 => ?_) (fun c241 => ?_)
      · have h := (if_pos c241).symm.trans h
        refine V.iinc (ls' := [some (LR v0), some (LR v1), some (LR v2), some (LI (v3 + (7 : Int32)))]) dL_law_1078 rfl ki_7 (by decide) rfl rfl ?_
        refine V.goto (tgt := 18) dL_law_1081 (by decide) ?_
        refine V.weak [true, true, true, true] ?_
        exact hk18 h
      · have h := (if_neg c241).symm.trans h
        refine V.iconst dL_law_654 ki_0 ?_
        obtain rfl := Option.some.inj h
        exact V.ireturn dL_law_655
    have h := (if_neg c226).symm.trans h
    by_cases c242 : (x10 &&& (31 : Int32)) = 12
    · have h := (if_pos c242).symm.trans h
      refine V.tableIn (tgt := 656) (off := 623) dL_law_33 (by rw [c242]; decide) (by rw [c242]; decide) (by rw [c242]; decide) (by decide) ?_
      refine V.aload_n dL_law_656 rfl rfl ?_
      refine V.aload_n dL_law_657 rfl rfl ?_
      refine V.iload_n dL_law_658 rfl rfl ?_
      refine V.iconst dL_law_659 ki_1 ?_
      refine V.iadd dL_law_660 ?_
      obtain ⟨x243, h244, h⟩ := bnd h
      refine V.iald h244 dL_law_661 ?_
      refine V.aload_n dL_law_662 rfl rfl ?_
      refine V.iload_n dL_law_663 rfl rfl ?_
      refine V.iconst dL_law_664 ki_2 ?_
      refine V.iadd dL_law_665 ?_
      obtain ⟨x245, h246, h⟩ := bnd h
      refine V.iald h246 dL_law_666 ?_
      obtain ⟨p247, h248, h⟩ := bnd h
      have w249 := w_X10_book (g := g) h248
      refine V.callVi (args := [LI x243, LI x245]) (st := []) w249.1 (oo_X10_book h248) mk_X10_book w249.2 vc_10 ml_RL_69 im_X10_book se_X10_book rfl (Nat.le_of_ble_eq_true rfl) (by decide) rfl (Nat.le_of_ble_eq_true rfl) dL_law_667 ?_
      refine V.aload_n dL_law_670 rfl rfl ?_
      refine V.aload_n dL_law_671 rfl rfl ?_
      refine V.iload_n dL_law_672 rfl rfl ?_
      refine V.iconst dL_law_673 ki_1 ?_
      refine V.iadd dL_law_674 ?_
      obtain ⟨x250, h251, h⟩ := bnd h
      refine V.iald h251 dL_law_675 ?_
      refine V.aload_n dL_law_676 rfl rfl ?_
      refine V.iload_n dL_law_677 rfl rfl ?_
      refine V.iconst dL_law_678 ki_2 ?_
      refine V.iadd dL_law_679 ?_
      obtain ⟨x252, h253, h⟩ := bnd h
      refine V.iald h253 dL_law_680 ?_
      obtain ⟨p254, h255, h⟩ := bnd h
      have w256 := w_X11_book (g := g) h255
      refine V.callVi (args := [LI x250, LI x252]) (st := [LI p247]) w256.1 (oo_X11_book h255) mk_X11_book w256.2 vc_11 ml_RL_72 im_X11_book se_X11_book rfl (Nat.le_of_ble_eq_true rfl) (by decide) rfl (Nat.le_of_ble_eq_true rfl) dL_law_681 ?_
      refine V.icmp_eq (tgt := 1078) dL_law_684 (by decide) (fun c257 => ?_) (fun c257 => ?_)
      · have h := (if_pos c257).symm.trans h
        refine V.iinc (ls' := [some (LR v0), some (LR v1), some (LR v2), some (LI (v3 + (7 : Int32)))]) dL_law_1078 rfl ki_7 (by decide) rfl rfl ?_
        refine V.goto (tgt := 18) dL_law_1081 (by decide) ?_
        refine V.weak [true, true, true, true] ?_
        exact hk18 h
      · have h := (if_neg c257).symm.trans h
        refine V.iconst dL_law_687 ki_0 ?_
        obtain rfl := Option.some.inj h
        exact V.ireturn dL_law_688
    have h := (if_neg c242).symm.trans h
    by_cases c258 : (x10 &&& (31 : Int32)) = 13
    · have h := (if_pos c258).symm.trans h
      refine V.tableIn (tgt := 689) (off := 656) dL_law_33 (by rw [c258]; decide) (by rw [c258]; decide) (by rw [c258]; decide) (by decide) ?_
      refine V.aload_n dL_law_689 rfl rfl ?_
      refine V.aload_n dL_law_690 rfl rfl ?_
      refine V.iload_n dL_law_691 rfl rfl ?_
      refine V.iconst dL_law_692 ki_1 ?_
      refine V.iadd dL_law_693 ?_
      obtain ⟨x259, h260, h⟩ := bnd h
      refine V.iald h260 dL_law_694 ?_
      obtain ⟨p261, h262, h⟩ := bnd h
      have w263 := w_X10_tried (g := g) N h262
      refine V.callVi (args := [LI x259]) (st := []) w263.1 (oo_X10_tried h262) mk_X10_tried w263.2 vc_10 ml_RL_73 im_X10_tried se_X10_tried rfl (Nat.le_of_ble_eq_true rfl) (by decide) rfl (Nat.le_of_ble_eq_true rfl) dL_law_695 ?_
      refine V.aload_n dL_law_698 rfl rfl ?_
      refine V.aload_n dL_law_699 rfl rfl ?_
      refine V.iload_n dL_law_700 rfl rfl ?_
      refine V.iconst dL_law_701 ki_1 ?_
      refine V.iadd dL_law_702 ?_
      obtain ⟨x264, h265, h⟩ := bnd h
      refine V.iald h265 dL_law_703 ?_
      obtain ⟨p266, h267, h⟩ := bnd h
      have w268 := w_X11_tried (g := g) N h267
      refine V.callVi (args := [LI x264]) (st := [LI p261.1]) w268.1 (oo_X11_tried h267) mk_X11_tried w268.2 vc_11 ml_RL_76 im_X11_tried se_X11_tried rfl (Nat.le_of_ble_eq_true rfl) (by decide) rfl (Nat.le_of_ble_eq_true rfl) dL_law_704 ?_
      refine V.icmp_eq (tgt := 1078) dL_law_707 (by decide) (fun c269 => ?_) (fun c269 => ?_)
      · have h := (if_pos c269).symm.trans h
        refine V.iinc (ls' := [some (LR v0), some (LR v1), some (LR v2), some (LI (v3 + (7 : Int32)))]) dL_law_1078 rfl ki_7 (by decide) rfl rfl ?_
        refine V.goto (tgt := 18) dL_law_1081 (by decide) ?_
        refine V.weak [true, true, true, true] ?_
        exact hk18 h
      · have h := (if_neg c269).symm.trans h
        refine V.iconst dL_law_710 ki_0 ?_
        obtain rfl := Option.some.inj h
        exact V.ireturn dL_law_711
    have h := (if_neg c258).symm.trans h
    by_cases c270 : (x10 &&& (31 : Int32)) = 14
    · have h := (if_pos c270).symm.trans h
      refine V.tableIn (tgt := 712) (off := 679) dL_law_33 (by rw [c270]; decide) (by rw [c270]; decide) (by rw [c270]; decide) (by decide) ?_
      refine V.aload_n dL_law_712 rfl rfl ?_
      refine V.aload_n dL_law_713 rfl rfl ?_
      refine V.iload_n dL_law_714 rfl rfl ?_
      refine V.iconst dL_law_715 ki_1 ?_
      refine V.iadd dL_law_716 ?_
      obtain ⟨x271, h272, h⟩ := bnd h
      refine V.iald h272 dL_law_717 ?_
      refine V.aload_n dL_law_718 rfl rfl ?_
      refine V.iload_n dL_law_719 rfl rfl ?_
      refine V.iconst dL_law_720 ki_2 ?_
      refine V.iadd dL_law_721 ?_
      obtain ⟨x273, h274, h⟩ := bnd h
      refine V.iald h274 dL_law_722 ?_
      obtain ⟨p275, h276, h⟩ := bnd h
      have w277 := w_X10_decides (g := g) N h276
      refine V.callVi (args := [LI x271, LI x273]) (st := []) w277.1 (oo_X10_decides h276) mk_X10_decides w277.2 vc_10 ml_RL_77 im_X10_decides se_X10_decides rfl (Nat.le_of_ble_eq_true rfl) (by decide) rfl (Nat.le_of_ble_eq_true rfl) dL_law_723 ?_
      refine V.aload_n dL_law_726 rfl rfl ?_
      refine V.aload_n dL_law_727 rfl rfl ?_
      refine V.iload_n dL_law_728 rfl rfl ?_
      refine V.iconst dL_law_729 ki_1 ?_
      refine V.iadd dL_law_730 ?_
      obtain ⟨x278, h279, h⟩ := bnd h
      refine V.iald h279 dL_law_731 ?_
      refine V.aload_n dL_law_732 rfl rfl ?_
      refine V.iload_n dL_law_733 rfl rfl ?_
      refine V.iconst dL_law_734 ki_2 ?_
      refine V.iadd dL_law_735 ?_
      obtain ⟨x280, h281, h⟩ := bnd h
      refine V.iald h281 dL_law_736 ?_
      obtain ⟨p282, h283, h⟩ := bnd h
      have w284 := w_X11_decides (g := g) N h283
      refine V.callVi (args := [LI x278, LI x280]) (st := [LI p275.1]) w284.1 (oo_X11_decides h283) mk_X11_decides w284.2 vc_11 ml_RL_80 im_X11_decides se_X11_decides rfl (Nat.le_of_ble_eq_true rfl) (by decide) rfl (Nat.le_of_ble_eq_true rfl) dL_law_737 ?_
      refine V.icmp_eq (tgt := 1078) dL_law_740 (by decide) (fun c285 => ?_) (fun c285 => ?_)
      · have h := (if_pos c285).symm.trans h
        refine V.iinc (ls' := [some (LR v0), some (LR v1), some (LR v2), some (LI (v3 + (7 : Int32)))]) dL_law_1078 rfl ki_7 (by decide) rfl rfl ?_
        refine V.goto (tgt := 18) dL_law_1081 (by decide) ?_
        refine V.weak [true, true, true, true] ?_
        exact hk18 h
      · have h := (if_neg c285).symm.trans h
        refine V.iconst dL_law_743 ki_0 ?_
        obtain rfl := Option.some.inj h
        exact V.ireturn dL_law_744
    have h := (if_neg c270).symm.trans h
    by_cases c286 : (x10 &&& (31 : Int32)) = 15
    · have h := (if_pos c286).symm.trans h
      refine V.tableIn (tgt := 745) (off := 712) dL_law_33 (by rw [c286]; decide) (by rw [c286]; decide) (by rw [c286]; decide) (by decide) ?_
      refine V.aload_n dL_law_745 rfl rfl ?_
      refine V.aload_n dL_law_746 rfl rfl ?_
      refine V.iload_n dL_law_747 rfl rfl ?_
      refine V.iconst dL_law_748 ki_1 ?_
      refine V.iadd dL_law_749 ?_
      obtain ⟨x287, h288, h⟩ := bnd h
      refine V.iald h288 dL_law_750 ?_
      refine V.aload_n dL_law_751 rfl rfl ?_
      refine V.iload_n dL_law_752 rfl rfl ?_
      refine V.iconst dL_law_753 ki_2 ?_
      refine V.iadd dL_law_754 ?_
      obtain ⟨x289, h290, h⟩ := bnd h
      refine V.iald h290 dL_law_755 ?_
      refine V.aload_n dL_law_756 rfl rfl ?_
      refine V.iload_n dL_law_757 rfl rfl ?_
      refine V.iconst dL_law_758 ki_3 ?_
      refine V.iadd dL_law_759 ?_
      obtain ⟨x291, h292, h⟩ := bnd h
      refine V.iald h292 dL_law_760 ?_
      obtain ⟨p293, h294, h⟩ := bnd h
      have w295 := w_X10_lost (g := g) N h294
      refine V.callVi (args := [LI x287, LI x289, LI x291]) (st := []) w295.1 (oo_X10_lost h294) mk_X10_lost w295.2 vc_10 ml_RL_81 im_X10_lost se_X10_lost rfl (Nat.le_of_ble_eq_true rfl) (by decide) rfl (Nat.le_of_ble_eq_true rfl) dL_law_761 ?_
      refine V.aload_n dL_law_764 rfl rfl ?_
      refine V.aload_n dL_law_765 rfl rfl ?_
      refine V.iload_n dL_law_766 rfl rfl ?_
      refine V.iconst dL_law_767 ki_1 ?_
      refine V.iadd dL_law_768 ?_
      obtain ⟨x296, h297, h⟩ := bnd h
      refine V.iald h297 dL_law_769 ?_
      refine V.aload_n dL_law_770 rfl rfl ?_
      refine V.iload_n dL_law_771 rfl rfl ?_
      refine V.iconst dL_law_772 ki_2 ?_
      refine V.iadd dL_law_773 ?_
      obtain ⟨x298, h299, h⟩ := bnd h
      refine V.iald h299 dL_law_774 ?_
      refine V.aload_n dL_law_775 rfl rfl ?_
      refine V.iload_n dL_law_776 rfl rfl ?_
      refine V.iconst dL_law_777 ki_3 ?_
      refine V.iadd dL_law_778 ?_
      obtain ⟨x300, h301, h⟩ := bnd h
      refine V.iald h301 dL_law_779 ?_
      obtain ⟨p302, h303, h⟩ := bnd h
      have w304 := w_X11_lost (g := g) N h303
      refine V.callVi (args := [LI x296, LI x298, LI x300]) (st := [LI p293.1]) w304.1 (oo_X11_lost h303) mk_X11_lost w304.2 vc_11 ml_RL_84 im_X11_lost se_X11_lost rfl (Nat.le_of_ble_eq_true rfl) (by decide) rfl (Nat.le_of_ble_eq_true rfl) dL_law_780 ?_
      refine V.icmp_eq (tgt := 1078) dL_law_783 (by decide) (fun c305 => ?_) (fun c305 => ?_)
      · have h := (if_pos c305).symm.trans h
        refine V.iinc (ls' := [some (LR v0), some (LR v1), some (LR v2), some (LI (v3 + (7 : Int32)))]) dL_law_1078 rfl ki_7 (by decide) rfl rfl ?_
        refine V.goto (tgt := 18) dL_law_1081 (by decide) ?_
        refine V.weak [true, true, true, true] ?_
        exact hk18 h
      · have h := (if_neg c305).symm.trans h
        refine V.iconst dL_law_786 ki_0 ?_
        obtain rfl := Option.some.inj h
        exact V.ireturn dL_law_787
    have h := (if_neg c286).symm.trans h
    by_cases c306 : (x10 &&& (31 : Int32)) = 16
    · have h := (if_pos c306).symm.trans h
      refine V.tableIn (tgt := 788) (off := 755) dL_law_33 (by rw [c306]; decide) (by rw [c306]; decide) (by rw [c306]; decide) (by decide) ?_
      refine V.aload_n dL_law_788 rfl rfl ?_
      refine V.aload_n dL_law_789 rfl rfl ?_
      refine V.iload_n dL_law_790 rfl rfl ?_
      refine V.iconst dL_law_791 ki_1 ?_
      refine V.iadd dL_law_792 ?_
      obtain ⟨x307, h308, h⟩ := bnd h
      refine V.iald h308 dL_law_793 ?_
      refine V.aload_n dL_law_794 rfl rfl ?_
      refine V.iload_n dL_law_795 rfl rfl ?_
      refine V.iconst dL_law_796 ki_2 ?_
      refine V.iadd dL_law_797 ?_
      obtain ⟨x309, h310, h⟩ := bnd h
      refine V.iald h310 dL_law_798 ?_
      obtain ⟨p311, h312, h⟩ := bnd h
      have w313 := w_X10_idle (g := g) N h312
      refine V.callVi (args := [LI x307, LI x309]) (st := []) w313.1 (oo_X10_idle h312) mk_X10_idle w313.2 vc_10 ml_RL_85 im_X10_idle se_X10_idle rfl (Nat.le_of_ble_eq_true rfl) (by decide) rfl (Nat.le_of_ble_eq_true rfl) dL_law_799 ?_
      refine V.aload_n dL_law_802 rfl rfl ?_
      refine V.aload_n dL_law_803 rfl rfl ?_
      refine V.iload_n dL_law_804 rfl rfl ?_
      refine V.iconst dL_law_805 ki_1 ?_
      refine V.iadd dL_law_806 ?_
      obtain ⟨x314, h315, h⟩ := bnd h
      refine V.iald h315 dL_law_807 ?_
      refine V.aload_n dL_law_808 rfl rfl ?_
      refine V.iload_n dL_law_809 rfl rfl ?_
      refine V.iconst dL_law_810 ki_2 ?_
      refine V.iadd dL_law_811 ?_
      obtain ⟨x316, h317, h⟩ := bnd h
      refine V.iald h317 dL_law_812 ?_
      obtain ⟨p318, h319, h⟩ := bnd h
      have w320 := w_X11_idle (g := g) N h319
      refine V.callVi (args := [LI x314, LI x316]) (st := [LI p311.1]) w320.1 (oo_X11_idle h319) mk_X11_idle w320.2 vc_11 ml_RL_88 im_X11_idle se_X11_idle rfl (Nat.le_of_ble_eq_true rfl) (by decide) rfl (Nat.le_of_ble_eq_true rfl) dL_law_813 ?_
      refine V.icmp_eq (tgt := 1078) dL_law_816 (by decide) (fun c321 => ?_) (fun c321 => ?_)
      · have h := (if_pos c321).symm.trans h
        refine V.iinc (ls' := [some (LR v0), some (LR v1), some (LR v2), some (LI (v3 + (7 : Int32)))]) dL_law_1078 rfl ki_7 (by decide) rfl rfl ?_
        refine V.goto (tgt := 18) dL_law_1081 (by decide) ?_
        refine V.weak [true, true, true, true] ?_
        exact hk18 h
      · have h := (if_neg c321).symm.trans h
        refine V.iconst dL_law_819 ki_0 ?_
        obtain rfl := Option.some.inj h
        exact V.ireturn dL_law_820
    have h := (if_neg c306).symm.trans h
    by_cases c322 : (x10 &&& (31 : Int32)) = 17
    · have h := (if_pos c322).symm.trans h
      refine V.tableIn (tgt := 821) (off := 788) dL_law_33 (by rw [c322]; decide) (by rw [c322]; decide) (by rw [c322]; decide) (by decide) ?_
      refine V.aload_n dL_law_821 rfl rfl ?_
      refine V.aload_n dL_law_822 rfl rfl ?_
      refine V.iload_n dL_law_823 rfl rfl ?_
      refine V.iconst dL_law_824 ki_1 ?_
      refine V.iadd dL_law_825 ?_
      obtain ⟨x323, h324, h⟩ := bnd h
      refine V.iald h324 dL_law_826 ?_
      refine V.aload_n dL_law_827 rfl rfl ?_
      refine V.iload_n dL_law_828 rfl rfl ?_
      refine V.iconst dL_law_829 ki_2 ?_
      refine V.iadd dL_law_830 ?_
      obtain ⟨x325, h326, h⟩ := bnd h
      refine V.iald h326 dL_law_831 ?_
      obtain ⟨p327, h328, h⟩ := bnd h
      have w329 := w_X10_more (g := g) N h328
      refine V.callVi (args := [LI x323, LI x325]) (st := []) w329.1 (oo_X10_more h328) mk_X10_more w329.2 vc_10 ml_RL_89 im_X10_more se_X10_more rfl (Nat.le_of_ble_eq_true rfl) (by decide) rfl (Nat.le_of_ble_eq_true rfl) dL_law_832 ?_
      refine V.aload_n dL_law_835 rfl rfl ?_
      refine V.aload_n dL_law_836 rfl rfl ?_
      refine V.iload_n dL_law_837 rfl rfl ?_
      refine V.iconst dL_law_838 ki_1 ?_
      refine V.iadd dL_law_839 ?_
      obtain ⟨x330, h331, h⟩ := bnd h
      refine V.iald h331 dL_law_840 ?_
      refine V.aload_n dL_law_841 rfl rfl ?_
      refine V.iload_n dL_law_842 rfl rfl ?_
      refine V.iconst dL_law_843 ki_2 ?_
      refine V.iadd dL_law_844 ?_
      obtain ⟨x332, h333, h⟩ := bnd h
      refine V.iald h333 dL_law_845 ?_
      obtain ⟨p334, h335, h⟩ := bnd h
      have w336 := w_X11_more (g := g) N h335
      refine V.callVi (args := [LI x330, LI x332]) (st := [LI p327.1]) w336.1 (oo_X11_more h335) mk_X11_more w336.2 vc_11 ml_RL_92 im_X11_more se_X11_more rfl (Nat.le_of_ble_eq_true rfl) (by decide) rfl (Nat.le_of_ble_eq_true rfl) dL_law_846 ?_
      refine V.icmp_eq (tgt := 1078) dL_law_849 (by decide) (fun c337 => ?_) (fun c337 => ?_)
      · have h := (if_pos c337).symm.trans h
        refine V.iinc (ls' := [some (LR v0), some (LR v1), some (LR v2), some (LI (v3 + (7 : Int32)))]) dL_law_1078 rfl ki_7 (by decide) rfl rfl ?_
        refine V.goto (tgt := 18) dL_law_1081 (by decide) ?_
        refine V.weak [true, true, true, true] ?_
        exact hk18 h
      · have h := (if_neg c337).symm.trans h
        refine V.iconst dL_law_852 ki_0 ?_
        obtain rfl := Option.some.inj h
        exact V.ireturn dL_law_853
    have h := (if_neg c322).symm.trans h
    by_cases c338 : (x10 &&& (31 : Int32)) = 18
    · have h := (if_pos c338).symm.trans h
      refine V.tableIn (tgt := 854) (off := 821) dL_law_33 (by rw [c338]; decide) (by rw [c338]; decide) (by rw [c338]; decide) (by decide) ?_
      refine V.aload_n dL_law_854 rfl rfl ?_
      refine V.aload_n dL_law_855 rfl rfl ?_
      refine V.iload_n dL_law_856 rfl rfl ?_
      refine V.iconst dL_law_857 ki_1 ?_
      refine V.iadd dL_law_858 ?_
      obtain ⟨x339, h340, h⟩ := bnd h
      refine V.iald h340 dL_law_859 ?_
      refine V.aload_n dL_law_860 rfl rfl ?_
      refine V.iload_n dL_law_861 rfl rfl ?_
      refine V.iconst dL_law_862 ki_2 ?_
      refine V.iadd dL_law_863 ?_
      obtain ⟨x341, h342, h⟩ := bnd h
      refine V.iald h342 dL_law_864 ?_
      refine V.aload_n dL_law_865 rfl rfl ?_
      refine V.iload_n dL_law_866 rfl rfl ?_
      refine V.iconst dL_law_867 ki_3 ?_
      refine V.iadd dL_law_868 ?_
      obtain ⟨x343, h344, h⟩ := bnd h
      refine V.iald h344 dL_law_869 ?_
      obtain ⟨p345, h346, h⟩ := bnd h
      have w347 := w_X10_unlike (g := g) N h346
      refine V.callVi (args := [LI x339, LI x341, LI x343]) (st := []) w347.1 (oo_X10_unlike h346) mk_X10_unlike w347.2 vc_10 ml_RL_93 im_X10_unlike se_X10_unlike rfl (Nat.le_of_ble_eq_true rfl) (by decide) rfl (Nat.le_of_ble_eq_true rfl) dL_law_870 ?_
      refine V.aload_n dL_law_873 rfl rfl ?_
      refine V.aload_n dL_law_874 rfl rfl ?_
      refine V.iload_n dL_law_875 rfl rfl ?_
      refine V.iconst dL_law_876 ki_1 ?_
      refine V.iadd dL_law_877 ?_
      obtain ⟨x348, h349, h⟩ := bnd h
      refine V.iald h349 dL_law_878 ?_
      refine V.aload_n dL_law_879 rfl rfl ?_
      refine V.iload_n dL_law_880 rfl rfl ?_
      refine V.iconst dL_law_881 ki_2 ?_
      refine V.iadd dL_law_882 ?_
      obtain ⟨x350, h351, h⟩ := bnd h
      refine V.iald h351 dL_law_883 ?_
      refine V.aload_n dL_law_884 rfl rfl ?_
      refine V.iload_n dL_law_885 rfl rfl ?_
      refine V.iconst dL_law_886 ki_3 ?_
      refine V.iadd dL_law_887 ?_
      obtain ⟨x352, h353, h⟩ := bnd h
      refine V.iald h353 dL_law_888 ?_
      obtain ⟨p354, h355, h⟩ := bnd h
      have w356 := w_X11_unlike (g := g) N h355
      refine V.callVi (args := [LI x348, LI x350, LI x352]) (st := [LI p345.1]) w356.1 (oo_X11_unlike h355) mk_X11_unlike w356.2 vc_11 ml_RL_96 im_X11_unlike se_X11_unlike rfl (Nat.le_of_ble_eq_true rfl) (by decide) rfl (Nat.le_of_ble_eq_true rfl) dL_law_889 ?_
      refine V.icmp_eq (tgt := 1078) dL_law_892 (by decide) (fun c357 => ?_) (fun c357 => ?_)
      · have h := (if_pos c357).symm.trans h
        refine V.iinc (ls' := [some (LR v0), some (LR v1), some (LR v2), some (LI (v3 + (7 : Int32)))]) dL_law_1078 rfl ki_7 (by decide) rfl rfl ?_
        refine V.goto (tgt := 18) dL_law_1081 (by decide) ?_
        refine V.weak [true, true, true, true] ?_
        exact hk18 h
      · have h := (if_neg c357).symm.trans h
        refine V.iconst dL_law_895 ki_0 ?_
        obtain rfl := Option.some.inj h
        exact V.ireturn dL_law_896
    have h := (if_neg c338).symm.trans h
    by_cases c358 : (x10 &&& (31 : Int32)) = 19
    · have h := (if_pos c358).symm.trans h
      refine V.tableIn (tgt := 897) (off := 864) dL_law_33 (by rw [c358]; decide) (by rw [c358]; decide) (by rw [c358]; decide) (by decide) ?_
      refine V.aload_n dL_law_897 rfl rfl ?_
      refine V.aload_n dL_law_898 rfl rfl ?_
      refine V.iload_n dL_law_899 rfl rfl ?_
      refine V.iconst dL_law_900 ki_1 ?_
      refine V.iadd dL_law_901 ?_
      obtain ⟨x359, h360, h⟩ := bnd h
      refine V.iald h360 dL_law_902 ?_
      obtain ⟨p361, h362, h⟩ := bnd h
      have w363 := w_X10_mend (g := g) N h362
      refine V.callVi (args := [LI x359]) (st := []) w363.1 (oo_X10_mend h362) mk_X10_mend w363.2 vc_10 ml_RL_97 im_X10_mend se_X10_mend rfl (Nat.le_of_ble_eq_true rfl) (by decide) rfl (Nat.le_of_ble_eq_true rfl) dL_law_903 ?_
      refine V.aload_n dL_law_906 rfl rfl ?_
      refine V.aload_n dL_law_907 rfl rfl ?_
      refine V.iload_n dL_law_908 rfl rfl ?_
      refine V.iconst dL_law_909 ki_1 ?_
      refine V.iadd dL_law_910 ?_
      obtain ⟨x364, h365, h⟩ := bnd h
      refine V.iald h365 dL_law_911 ?_
      obtain ⟨p366, h367, h⟩ := bnd h
      have w368 := w_X11_mend (g := g) N h367
      refine V.callVi (args := [LI x364]) (st := [LI p361.1]) w368.1 (oo_X11_mend h367) mk_X11_mend w368.2 vc_11 ml_RL_100 im_X11_mend se_X11_mend rfl (Nat.le_of_ble_eq_true rfl) (by decide) rfl (Nat.le_of_ble_eq_true rfl) dL_law_912 ?_
      refine V.icmp_eq (tgt := 1078) dL_law_915 (by decide) (fun c369 => ?_) (fun c369 => ?_)
      · have h := (if_pos c369).symm.trans h
        refine V.iinc (ls' := [some (LR v0), some (LR v1), some (LR v2), some (LI (v3 + (7 : Int32)))]) dL_law_1078 rfl ki_7 (by decide) rfl rfl ?_
        refine V.goto (tgt := 18) dL_law_1081 (by decide) ?_
        refine V.weak [true, true, true, true] ?_
        exact hk18 h
      · have h := (if_neg c369).symm.trans h
        refine V.iconst dL_law_918 ki_0 ?_
        obtain rfl := Option.some.inj h
        exact V.ireturn dL_law_919
    have h := (if_neg c358).symm.trans h
    by_cases c370 : (x10 &&& (31 : Int32)) = 20
    · have h := (if_pos c370).symm.trans h
      refine V.tableIn (tgt := 920) (off := 887) dL_law_33 (by rw [c370]; decide) (by rw [c370]; decide) (by rw [c370]; decide) (by decide) ?_
      refine V.aload_n dL_law_920 rfl rfl ?_
      refine V.aload_n dL_law_921 rfl rfl ?_
      refine V.iload_n dL_law_922 rfl rfl ?_
      refine V.iconst dL_law_923 ki_1 ?_
      refine V.iadd dL_law_924 ?_
      obtain ⟨x371, h372, h⟩ := bnd h
      refine V.iald h372 dL_law_925 ?_
      refine V.aload_n dL_law_926 rfl rfl ?_
      refine V.iload_n dL_law_927 rfl rfl ?_
      refine V.iconst dL_law_928 ki_2 ?_
      refine V.iadd dL_law_929 ?_
      obtain ⟨x373, h374, h⟩ := bnd h
      refine V.iald h374 dL_law_930 ?_
      obtain ⟨p375, h376, h⟩ := bnd h
      have w377 := w_X10_change (g := g) N h376
      refine V.callVi (args := [LI x371, LI x373]) (st := []) w377.1 (oo_X10_change h376) mk_X10_change w377.2 vc_10 ml_RL_101 im_X10_change se_X10_change rfl (Nat.le_of_ble_eq_true rfl) (by decide) rfl (Nat.le_of_ble_eq_true rfl) dL_law_931 ?_
      refine V.aload_n dL_law_934 rfl rfl ?_
      refine V.aload_n dL_law_935 rfl rfl ?_
      refine V.iload_n dL_law_936 rfl rfl ?_
      refine V.iconst dL_law_937 ki_1 ?_
      refine V.iadd dL_law_938 ?_
      obtain ⟨x378, h379, h⟩ := bnd h
      refine V.iald h379 dL_law_939 ?_
      refine V.aload_n dL_law_940 rfl rfl ?_
      refine V.iload_n dL_law_941 rfl rfl ?_
      refine V.iconst dL_law_942 ki_2 ?_
      refine V.iadd dL_law_943 ?_
      obtain ⟨x380, h381, h⟩ := bnd h
      refine V.iald h381 dL_law_944 ?_
      obtain ⟨p382, h383, h⟩ := bnd h
      have w384 := w_X11_change (g := g) h383
      refine V.callVi (args := [LI x378, LI x380]) (st := [LI p375]) w384.1 (oo_X11_change h383) mk_X11_change w384.2 vc_11 ml_RL_104 im_X11_change se_X11_change rfl (Nat.le_of_ble_eq_true rfl) (by decide) rfl (Nat.le_of_ble_eq_true rfl) dL_law_945 ?_
      refine V.icmp_eq (tgt := 1078) dL_law_948 (by decide) (fun c385 => ?_) (fun c385 => ?_)
      · have h := (if_pos c385).symm.trans h
        refine V.iinc (ls' := [some (LR v0), some (LR v1), some (LR v2), some (LI (v3 + (7 : Int32)))]) dL_law_1078 rfl ki_7 (by decide) rfl rfl ?_
        refine V.goto (tgt := 18) dL_law_1081 (by decide) ?_
        refine V.weak [true, true, true, true] ?_
        exact hk18 h
      · have h := (if_neg c385).symm.trans h
        refine V.iconst dL_law_951 ki_0 ?_
        obtain rfl := Option.some.inj h
        exact V.ireturn dL_law_952
    have h := (if_neg c370).symm.trans h
    by_cases c386 : (x10 &&& (31 : Int32)) = 21
    · have h := (if_pos c386).symm.trans h
      refine V.tableIn (tgt := 953) (off := 920) dL_law_33 (by rw [c386]; decide) (by rw [c386]; decide) (by rw [c386]; decide) (by decide) ?_
      refine V.aload_n dL_law_953 rfl rfl ?_
      obtain ⟨p387, h388, h⟩ := bnd h
      have w389 := w_X10_apply (g := g) N h388
      refine V.callVi (args := []) (st := []) w389.1 (oo_X10_apply h388) mk_X10_apply w389.2 vc_10 ml_RL_105 im_X10_apply se_X10_apply rfl (Nat.le_of_ble_eq_true rfl) (by decide) rfl (Nat.le_of_ble_eq_true rfl) dL_law_954 ?_
      refine V.aload_n dL_law_957 rfl rfl ?_
      obtain ⟨p390, h391, h⟩ := bnd h
      have w392 := w_X11_apply (g := g) N h391
      refine V.callVi (args := []) (st := [LI p387.1]) w392.1 (oo_X11_apply h391) mk_X11_apply w392.2 vc_11 ml_RL_109 im_X11_apply se_X11_apply rfl (Nat.le_of_ble_eq_true rfl) (by decide) rfl (Nat.le_of_ble_eq_true rfl) dL_law_958 ?_
      refine V.icmp_eq (tgt := 1078) dL_law_961 (by decide) (fun c393 => ?_) (fun c393 => ?_)
      · have h := (if_pos c393).symm.trans h
        refine V.iinc (ls' := [some (LR v0), some (LR v1), some (LR v2), some (LI (v3 + (7 : Int32)))]) dL_law_1078 rfl ki_7 (by decide) rfl rfl ?_
        refine V.goto (tgt := 18) dL_law_1081 (by decide) ?_
        refine V.weak [true, true, true, true] ?_
        exact hk18 h
      · have h := (if_neg c393).symm.trans h
        refine V.iconst dL_law_964 ki_0 ?_
        obtain rfl := Option.some.inj h
        exact V.ireturn dL_law_965
    have h := (if_neg c386).symm.trans h
    by_cases c394 : (x10 &&& (31 : Int32)) = 22
    · have h := (if_pos c394).symm.trans h
      refine V.tableIn (tgt := 966) (off := 933) dL_law_33 (by rw [c394]; decide) (by rw [c394]; decide) (by rw [c394]; decide) (by decide) ?_
      refine V.aload_n dL_law_966 rfl rfl ?_
      refine V.aload_n dL_law_967 rfl rfl ?_
      refine V.iload_n dL_law_968 rfl rfl ?_
      refine V.iconst dL_law_969 ki_1 ?_
      refine V.iadd dL_law_970 ?_
      obtain ⟨x395, h396, h⟩ := bnd h
      refine V.iald h396 dL_law_971 ?_
      refine V.aload_n dL_law_972 rfl rfl ?_
      refine V.iload_n dL_law_973 rfl rfl ?_
      refine V.iconst dL_law_974 ki_2 ?_
      refine V.iadd dL_law_975 ?_
      obtain ⟨x397, h398, h⟩ := bnd h
      refine V.iald h398 dL_law_976 ?_
      refine V.aload_n dL_law_977 rfl rfl ?_
      refine V.iload_n dL_law_978 rfl rfl ?_
      refine V.iconst dL_law_979 ki_3 ?_
      refine V.iadd dL_law_980 ?_
      obtain ⟨x399, h400, h⟩ := bnd h
      refine V.iald h400 dL_law_981 ?_
      obtain ⟨p401, h402, h⟩ := bnd h
      have w403 := w_X10_line (g := g) h402
      refine V.callVi (args := [LI x395, LI x397, LI x399]) (st := []) w403.1 (oo_X10_line h402) mk_X10_line w403.2 vc_10 ml_RL_110 im_X10_line se_X10_line rfl (Nat.le_of_ble_eq_true rfl) (by decide) rfl (Nat.le_of_ble_eq_true rfl) dL_law_982 ?_
      refine V.aload_n dL_law_985 rfl rfl ?_
      refine V.aload_n dL_law_986 rfl rfl ?_
      refine V.iload_n dL_law_987 rfl rfl ?_
      refine V.iconst dL_law_988 ki_1 ?_
      refine V.iadd dL_law_989 ?_
      obtain ⟨x404, h405, h⟩ := bnd h
      refine V.iald h405 dL_law_990 ?_
      refine V.aload_n dL_law_991 rfl rfl ?_
      refine V.iload_n dL_law_992 rfl rfl ?_
      refine V.iconst dL_law_993 ki_2 ?_
      refine V.iadd dL_law_994 ?_
      obtain ⟨x406, h407, h⟩ := bnd h
      refine V.iald h407 dL_law_995 ?_
      refine V.aload_n dL_law_996 rfl rfl ?_
      refine V.iload_n dL_law_997 rfl rfl ?_
      refine V.iconst dL_law_998 ki_3 ?_
      refine V.iadd dL_law_999 ?_
      obtain ⟨x408, h409, h⟩ := bnd h
      refine V.iald h409 dL_law_1000 ?_
      obtain ⟨p410, h411, h⟩ := bnd h
      have w412 := w_X11_line (g := g) h411
      refine V.callVi (args := [LI x404, LI x406, LI x408]) (st := [LI p401]) w412.1 (oo_X11_line h411) mk_X11_line w412.2 vc_11 ml_RL_113 im_X11_line se_X11_line rfl (Nat.le_of_ble_eq_true rfl) (by decide) rfl (Nat.le_of_ble_eq_true rfl) dL_law_1001 ?_
      refine V.icmp_eq (tgt := 1078) dL_law_1004 (by decide) (fun c413 => ?_) (fun c413 => ?_)
      · have h := (if_pos c413).symm.trans h
        refine V.iinc (ls' := [some (LR v0), some (LR v1), some (LR v2), some (LI (v3 + (7 : Int32)))]) dL_law_1078 rfl ki_7 (by decide) rfl rfl ?_
        refine V.goto (tgt := 18) dL_law_1081 (by decide) ?_
        refine V.weak [true, true, true, true] ?_
        exact hk18 h
      · have h := (if_neg c413).symm.trans h
        refine V.iconst dL_law_1007 ki_0 ?_
        obtain rfl := Option.some.inj h
        exact V.ireturn dL_law_1008
    have h := (if_neg c394).symm.trans h
    by_cases c414 : (x10 &&& (31 : Int32)) = 23
    · have h := (if_pos c414).symm.trans h
      refine V.tableIn (tgt := 1009) (off := 976) dL_law_33 (by rw [c414]; decide) (by rw [c414]; decide) (by rw [c414]; decide) (by decide) ?_
      refine V.aload_n dL_law_1009 rfl rfl ?_
      refine V.aload_n dL_law_1010 rfl rfl ?_
      refine V.iload_n dL_law_1011 rfl rfl ?_
      refine V.iconst dL_law_1012 ki_1 ?_
      refine V.iadd dL_law_1013 ?_
      obtain ⟨x415, h416, h⟩ := bnd h
      refine V.iald h416 dL_law_1014 ?_
      obtain ⟨p417, h418, h⟩ := bnd h
      have w419 := w_X10_count (g := g) N h418
      refine V.callVi (args := [LI x415]) (st := []) w419.1 (oo_X10_count h418) mk_X10_count w419.2 vc_10 ml_RL_114 im_X10_count se_X10_count rfl (Nat.le_of_ble_eq_true rfl) (by decide) rfl (Nat.le_of_ble_eq_true rfl) dL_law_1015 ?_
      refine V.aload_n dL_law_1018 rfl rfl ?_
      refine V.aload_n dL_law_1019 rfl rfl ?_
      refine V.iload_n dL_law_1020 rfl rfl ?_
      refine V.iconst dL_law_1021 ki_1 ?_
      refine V.iadd dL_law_1022 ?_
      obtain ⟨x420, h421, h⟩ := bnd h
      refine V.iald h421 dL_law_1023 ?_
      obtain ⟨p422, h423, h⟩ := bnd h
      have w424 := w_X11_count (g := g) N h423
      refine V.callVi (args := [LI x420]) (st := [LI p417]) w424.1 (oo_X11_count h423) mk_X11_count w424.2 vc_11 ml_RL_117 im_X11_count se_X11_count rfl (Nat.le_of_ble_eq_true rfl) (by decide) rfl (Nat.le_of_ble_eq_true rfl) dL_law_1024 ?_
      refine V.icmp_eq (tgt := 1078) dL_law_1027 (by decide) (fun c425 => ?_) (fun c425 => ?_)
      · have h := (if_pos c425).symm.trans h
        refine V.iinc (ls' := [some (LR v0), some (LR v1), some (LR v2), some (LI (v3 + (7 : Int32)))]) dL_law_1078 rfl ki_7 (by decide) rfl rfl ?_
        refine V.goto (tgt := 18) dL_law_1081 (by decide) ?_
        refine V.weak [true, true, true, true] ?_
        exact hk18 h
      · have h := (if_neg c425).symm.trans h
        refine V.iconst dL_law_1030 ki_0 ?_
        obtain rfl := Option.some.inj h
        exact V.ireturn dL_law_1031
    have h := (if_neg c414).symm.trans h
    by_cases c426 : (x10 &&& (31 : Int32)) = 24
    · have h := (if_pos c426).symm.trans h
      refine V.tableIn (tgt := 1032) (off := 999) dL_law_33 (by rw [c426]; decide) (by rw [c426]; decide) (by rw [c426]; decide) (by decide) ?_
      refine V.aload_n dL_law_1032 rfl rfl ?_
      refine V.aload_n dL_law_1033 rfl rfl ?_
      refine V.iload_n dL_law_1034 rfl rfl ?_
      refine V.iconst dL_law_1035 ki_1 ?_
      refine V.iadd dL_law_1036 ?_
      obtain ⟨x427, h428, h⟩ := bnd h
      refine V.iald h428 dL_law_1037 ?_
      obtain ⟨p429, h430, h⟩ := bnd h
      have w431 := w_X10_image (g := g) N h430
      refine V.callVi (args := [LI x427]) (st := []) w431.1 (oo_X10_image h430) mk_X10_image w431.2 vc_10 ml_RL_118 im_X10_image se_X10_image rfl (Nat.le_of_ble_eq_true rfl) (by decide) rfl (Nat.le_of_ble_eq_true rfl) dL_law_1038 ?_
      refine V.aload_n dL_law_1041 rfl rfl ?_
      refine V.aload_n dL_law_1042 rfl rfl ?_
      refine V.iload_n dL_law_1043 rfl rfl ?_
      refine V.iconst dL_law_1044 ki_1 ?_
      refine V.iadd dL_law_1045 ?_
      obtain ⟨x432, h433, h⟩ := bnd h
      refine V.iald h433 dL_law_1046 ?_
      obtain ⟨p434, h435, h⟩ := bnd h
      have w436 := w_X11_image (g := g) N h435
      refine V.callVi (args := [LI x432]) (st := [LI p429.1]) w436.1 (oo_X11_image h435) mk_X11_image w436.2 vc_11 ml_RL_122 im_X11_image se_X11_image rfl (Nat.le_of_ble_eq_true rfl) (by decide) rfl (Nat.le_of_ble_eq_true rfl) dL_law_1047 ?_
      refine V.icmp_eq (tgt := 1078) dL_law_1050 (by decide) (fun c437 => ?_) (fun c437 => ?_)
      · have h := (if_pos c437).symm.trans h
        refine V.iinc (ls' := [some (LR v0), some (LR v1), some (LR v2), some (LI (v3 + (7 : Int32)))]) dL_law_1078 rfl ki_7 (by decide) rfl rfl ?_
        refine V.goto (tgt := 18) dL_law_1081 (by decide) ?_
        refine V.weak [true, true, true, true] ?_
        exact hk18 h
      · have h := (if_neg c437).symm.trans h
        refine V.iconst dL_law_1053 ki_0 ?_
        obtain rfl := Option.some.inj h
        exact V.ireturn dL_law_1054
    have h := (if_neg c426).symm.trans h
    by_cases c438 : (x10 &&& (31 : Int32)) = 25
    · have h := (if_pos c438).symm.trans h
      refine V.tableIn (tgt := 1055) (off := 1022) dL_law_33 (by rw [c438]; decide) (by rw [c438]; decide) (by rw [c438]; decide) (by decide) ?_
      refine V.aload_n dL_law_1055 rfl rfl ?_
      refine V.aload_n dL_law_1056 rfl rfl ?_
      refine V.iload_n dL_law_1057 rfl rfl ?_
      refine V.iconst dL_law_1058 ki_1 ?_
      refine V.iadd dL_law_1059 ?_
      obtain ⟨x439, h440, h⟩ := bnd h
      refine V.iald h440 dL_law_1060 ?_
      obtain ⟨p441, h442, h⟩ := bnd h
      have w443 := w_X10_again (g := g) N h442
      refine V.callVi (args := [LI x439]) (st := []) w443.1 (oo_X10_again h442) mk_X10_again w443.2 vc_10 ml_RL_123 im_X10_again se_X10_again rfl (Nat.le_of_ble_eq_true rfl) (by decide) rfl (Nat.le_of_ble_eq_true rfl) dL_law_1061 ?_
      refine V.aload_n dL_law_1064 rfl rfl ?_
      refine V.aload_n dL_law_1065 rfl rfl ?_
      refine V.iload_n dL_law_1066 rfl rfl ?_
      refine V.iconst dL_law_1067 ki_1 ?_
      refine V.iadd dL_law_1068 ?_
      obtain ⟨x444, h445, h⟩ := bnd h
      refine V.iald h445 dL_law_1069 ?_
      obtain ⟨p446, h447, h⟩ := bnd h
      have w448 := w_X11_again (g := g) N h447
      refine V.callVi (args := [LI x444]) (st := [LI p441.1]) w448.1 (oo_X11_again h447) mk_X11_again w448.2 vc_11 ml_RL_126 im_X11_again se_X11_again rfl (Nat.le_of_ble_eq_true rfl) (by decide) rfl (Nat.le_of_ble_eq_true rfl) dL_law_1070 ?_
      refine V.icmp_eq (tgt := 1078) dL_law_1073 (by decide) (fun c449 => ?_) (fun c449 => ?_)
      · have h := (if_pos c449).symm.trans h
        refine V.iinc (ls' := [some (LR v0), some (LR v1), some (LR v2), some (LI (v3 + (7 : Int32)))]) dL_law_1078 rfl ki_7 (by decide) rfl rfl ?_
        refine V.goto (tgt := 18) dL_law_1081 (by decide) ?_
        refine V.weak [true, true, true, true] ?_
        exact hk18 h
      · have h := (if_neg c449).symm.trans h
        refine V.iconst dL_law_1076 ki_0 ?_
        obtain rfl := Option.some.inj h
        exact V.ireturn dL_law_1077
    have h := (if_neg c438).symm.trans h
    refine V.tableOut (tgt := 1078) dL_law_33 (sw_out (n := 26) [0, 1, 2, 3, 4, 5, 6, 7, 8, 9, 10, 11, 12, 13, 14, 15, 16, 17, 18, 19, 20, 21, 22, 23, 24, 25] (by decide) (List.forall_mem_cons.mpr ⟨c12, List.forall_mem_cons.mpr ⟨c40, List.forall_mem_cons.mpr ⟨c52, List.forall_mem_cons.mpr ⟨c64, List.forall_mem_cons.mpr ⟨c76, List.forall_mem_cons.mpr ⟨c92, List.forall_mem_cons.mpr ⟨c112, List.forall_mem_cons.mpr ⟨c132, List.forall_mem_cons.mpr ⟨c152, List.forall_mem_cons.mpr ⟨c168, List.forall_mem_cons.mpr ⟨c202, List.forall_mem_cons.mpr ⟨c226, List.forall_mem_cons.mpr ⟨c242, List.forall_mem_cons.mpr ⟨c258, List.forall_mem_cons.mpr ⟨c270, List.forall_mem_cons.mpr ⟨c286, List.forall_mem_cons.mpr ⟨c306, List.forall_mem_cons.mpr ⟨c322, List.forall_mem_cons.mpr ⟨c338, List.forall_mem_cons.mpr ⟨c358, List.forall_mem_cons.mpr ⟨c370, List.forall_mem_cons.mpr ⟨c386, List.forall_mem_cons.mpr ⟨c394, List.forall_mem_cons.mpr ⟨c414, List.forall_mem_cons.mpr ⟨c426, List.forall_mem_cons.mpr ⟨c438, fun _ z => nomatch z⟩⟩⟩⟩⟩⟩⟩⟩⟩⟩⟩⟩⟩⟩⟩⟩⟩⟩⟩⟩⟩⟩⟩⟩⟩⟩)) (by decide) ?_
    refine V.iinc (ls' := [some (LR v0), some (LR v1), some (LR v2), some (LI (v3 + (7 : Int32)))]) dL_law_1078 rfl ki_7 (by decide) rfl rfl ?_
    refine V.goto (tgt := 18) dL_law_1081 (by decide) ?_
    refine V.weak [true, true, true, true] ?_
    exact hk18 h
def l_L_law_18 (N : Nat) : Nat → LH → Option Nat → Option Nat → Option Nat → Int32 → Option (Int32 × LH)
  | 0, _, _, _, _, _ => none
  | n + 1, A, v0, v1, v2, v3 => b_L_law_18 N (l_L_law_18 N n) A v0 v1 v2 v3
theorem wl_L_law_18 {g : GG} {n0 z0 : Nat} (N : Nat) : ∀ (n : Nat) {A : LH} {v0 : Option Nat} {v1 : Option Nat} {v2 : Option Nat} {v3 : Int32} {p : Int32 × LH}, l_L_law_18 N n A v0 v1 v2 v3 = some p → V g m_L_law 51 n0 z0 (some (LI p.1)) p.2 A 18 [some (LR v0), some (LR v1), some (LR v2), some (LI v3)] []
  | 0, _, _, _, _, _, _, h => nomatch h
  | n + 1, _, _, _, _, _, _, h => wb_L_law_18 N (wl_L_law_18 N n) h
def b_L_law (N : Nat) (A : LH) (v0 : Option Nat) : Option (Int32 × LH) :=
  (f_X10_init N (al A (.inr (10, [LR none, LR none, LR none, LR none, LR none, LR none, LR none, LI 0, LI 0])) 9) (some (8 + hn A))).bind fun p1 => (f_X11_init (al p1 (.inr (11, [LI 0, LR none, LI 0, LR none, LR none, LR none, LR none, LR none, LR none, LR none, LR none, LR none, LR none, LR none, LR none, LR none, LR none, LR none, LI 0, LI 0, LI 0, LI 0, LI 0, LJ 0, LI 0, LI 0, LI 0, LI 0, LI 0, LI 0, LI 0, LI 0, LR none, LR none, LR none, LI 0, LI 0, LR none, LR none, LI 0, LI 0, LI 0, LI 0, LI 0, LI 0, LR none, LR none, LR none, LR none, LR none])) 50) (some (8 + hn p1))).bind fun p4 => l_L_law_18 N N p4 v0 (some (8 + hn A)) (some (8 + hn p1)) (0 : Int32)
set_option maxRecDepth 4000 in
theorem wb_L_law {g : GG} {n0 z0 : Nat} (N : Nat) {A : LH} {v0 : Option Nat} {p : Int32 × LH} (h : b_L_law N A v0 = some p) : V g m_L_law 51 n0 z0 (some (LI p.1)) p.2 A 0 [some (LR v0)] [] := by
  unfold b_L_law at h
  refine V.new CF10 okT10 cl_RL_7 in_10 ii_10 (fs := [LR none, LR none, LR none, LR none, LR none, LR none, LR none, LI 0, LI 0]) rfl dL_law_0 ?_
  refine V.dup dL_law_3 rfl ?_
  obtain ⟨p1, h2, h⟩ := bnd h
  have w3 := w_X10_init (g := g) N h2
  refine V.callI (args := []) (st := [LR (some (8 + hn A))]) w3.1 (oo_X10_init h2) mk_X10_init rfl ml_RL_9 im_X10_init rfl rfl (Nat.le_of_ble_eq_true rfl) (by decide) rfl (Nat.le_of_ble_eq_true rfl) dL_law_4 ?_
  refine V.astore_n (ls' := [some (LR v0), some (LR (some (8 + hn A)))]) dL_law_7 rfl (by decide) rfl rfl ?_
  refine V.new CF11 okT11 cl_RL_10 in_11 ii_11 (fs := [LI 0, LR none, LI 0, LR none, LR none, LR none, LR none, LR none, LR none, LR none, LR none, LR none, LR none, LR none, LR none, LR none, LR none, LR none, LI 0, LI 0, LI 0, LI 0, LI 0, LJ 0, LI 0, LI 0, LI 0, LI 0, LI 0, LI 0, LI 0, LI 0, LR none, LR none, LR none, LI 0, LI 0, LR none, LR none, LI 0, LI 0, LI 0, LI 0, LI 0, LI 0, LR none, LR none, LR none, LR none, LR none]) rfl dL_law_8 ?_
  refine V.dup dL_law_11 rfl ?_
  obtain ⟨p4, h5, h⟩ := bnd h
  have w6 := w_X11_init (g := g) h5
  refine V.callI (args := []) (st := [LR (some (8 + hn p1))]) w6.1 (oo_X11_init h5) mk_X11_init rfl ml_RL_12 im_X11_init rfl rfl (Nat.le_of_ble_eq_true rfl) (by decide) rfl (Nat.le_of_ble_eq_true rfl) dL_law_12 ?_
  refine V.astore_n (ls' := [some (LR v0), some (LR (some (8 + hn A))), some (LR (some (8 + hn p1)))]) dL_law_15 rfl (by decide) rfl rfl ?_
  refine V.iconst dL_law_16 ki_0 ?_
  refine V.istore_n (ls' := [some (LR v0), some (LR (some (8 + hn A))), some (LR (some (8 + hn p1))), some (LI (0 : Int32))]) dL_law_17 rfl (by decide) rfl rfl ?_
  refine V.weak [true, true, true, true] ?_
  exact wl_L_law_18 N N h
def f_L_law (N : Nat) (A : LH) (v0 : Option Nat) : Option (Int32 × LH) := zc (b_L_law N A v0)
theorem w_L_law {g : GG} (N : Nat) {A : LH} {v0 : Option Nat} {p : Int32 × LH} (h : f_L_law N A v0 = some p) : Ct g m_L_law 51 [LR v0] A (some (LI p.1)) p.2 := by
  unfold f_L_law at h
  obtain ⟨h, hz⟩ := zc_sp h
  exact ⟨wb_L_law N h, (RTz hz)⟩
