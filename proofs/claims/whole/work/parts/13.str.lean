/-! the constant text: String.length, String.charAt on it -/
def s_len (r : Option Nat) : Option Int32 := if r = some 3 then some 120 else none
def s_ch (i : Int32) : Int32 := (((w_byt.getD i.toNatClampNeg 0) &&& 255).toUInt32 % 65536).toInt32
def s_at (r : Option Nat) (i : Int32) : Option Int32 := if r = some 3 ∧ ¬ (i < 0 ∨ 120 ≤ i.toNatClampNeg) then some (s_ch i) else none
section VST
variable {g : GG} {y y2 : MM} {d d2 n0 z0 n i : Nat} {rr r2 : Option LV} {A' A A1 : LH} {pc : Nat} {ls : List (Option LV)} {st stk args : List LV}
theorem V.sV (hl : Cond.fieldLink (mN y).cls i "java/lang/String" "value" "[B" ∈ lw_tbl) (hd : decode (mC y) pc = .ok (.getfield i, 3)) (kk : V g y d n0 z0 rr A' A (pc + 3) ls (LR (some 4) :: st)) : V g y d n0 z0 rr A' A pc ls (LR (some 3) :: st) :=
  ⟨kk.1, fun a b p e R s m args below meth c Q H locs lc X hR hD hS hL => vk_getf X.1 X.2.1 (X.2.2.2.2.2.2.1.2.2.2.2.2.2.2.2.2.1.1 0 (by decide)).2.2.1 hS X.2.2.2.1 (X.2.2.2.2.2.1 _ hl rfl) (fun _ h => h) hd (kk.2 a b p e R s m args below meth c Q H locs lc X hR hD hS hL)⟩
theorem V.sC (hl : Cond.fieldLink (mN y).cls i "java/lang/String" "coder" "B" ∈ lw_tbl) (hd : decode (mC y) pc = .ok (.getfield i, 3)) (kk : V g y d n0 z0 rr A' A (pc + 3) ls (LI 0 :: st)) : V g y d n0 z0 rr A' A pc ls (LR (some 3) :: st) :=
  ⟨kk.1, fun a b p e R s m args below meth c Q H locs lc X hR hD hS hL => vk_getf X.1 X.2.1 (X.2.2.2.2.2.2.1.2.2.2.2.2.2.2.2.2.1.1 0 (by decide)).2.1 hS X.2.2.2.1 (X.2.2.2.2.2.1 _ hl rfl) (fun _ h => h) hd (kk.2 a b p e R s m args below meth c Q H locs lc X hR hD hS hL)⟩
theorem V.sL (hd : decode (mC y) pc = .ok (.arraylength, 1)) (kk : V g y d n0 z0 rr A' A (pc + 1) ls (LI 120 :: st)) : V g y d n0 z0 rr A' A pc ls (LR (some 4) :: st) :=
  ⟨kk.1, fun a b p e R s m args below meth c Q H locs lc X hR hD hS hL => va_tlen X.1 X.2.1 (X.2.2.2.2.2.2.1.2.2.2.2.2.2.2.2.2.1.1 0 (by decide)).2.2.2 hS (show Int32.ofNat ([w_byt.length].getD 0 0) = 120 by decide +kernel) hd (kk.2 a b p e R s m args below meth c Q H locs lc X hR hD hS hL)⟩
theorem V.sB {j : Int32} (hj : vp_in j 120) (hd : decode (mC y) pc = .ok (.baload, 1)) (kk : V g y d n0 z0 rr A' A (pc + 1) ls (LI (w_byt.getD j.toNatClampNeg 0) :: st)) : V g y d n0 z0 rr A' A pc ls (LI j :: LR (some 4) :: st) :=
  ⟨kk.1, fun a b p e R s m args below meth c Q H locs lc X hR hD hS hL => va_tb X.1 X.2.1 (X.2.2.2.2.2.2.1.2.2.2.2.2.2.2.2.2.1.1 0 (by decide)).2.2.2 hS (by exact hj) rfl hd (kk.2 a b p e R s m args below meth c Q H locs lc X hR hD hS hL)⟩
theorem V.sK (hl : Cond.fieldLink (mN y).cls i "java/lang/String" "COMPACT_STRINGS" "Z" ∈ lw_tbl) (hd : decode (mC y) pc = .ok (.getstatic i, 3)) (kk : V g y d n0 z0 rr A' A (pc + 3) ls (LI 1 :: st)) : V g y d n0 z0 rr A' A pc ls st :=
  ⟨kk.1, fun a b p e R s m args below meth c Q H locs lc X hR hD hS hL => va_gets X.1 X.2.1 X.2.2.2.2.2.2.1.2.2.2.2.2.2.2.1 hS X.2.2.2.1 (X.2.2.2.2.2.1 _ hl rfl) (fun _ h => h) hd (kk.2 a b p e R s m args below meth c Q H locs lc X hR hD hS hL)⟩
theorem V.sF (hl : Cond.fieldLink (mN y).cls i "jdk/internal/util/Preconditions" "SIOOBE_FORMATTER" "Ljava/util/function/BiFunction;" ∈ lw_tbl) (hd : decode (mC y) pc = .ok (.getstatic i, 3)) (kk : ∀ fo, V g y d n0 z0 rr A' A (pc + 3) ls (LR fo :: st)) : V g y d n0 z0 rr A' A pc ls st :=
  ⟨(kk none).1, fun a b p e R s m args below meth c Q H locs lc X hR hD hS hL => by
    rcases X.2.2.2.2.2.2.1.2.2.2.2.2.2.2.2.2.2.2.2.2 with h | h
    · exact va_gets X.1 X.2.1 h hS X.2.2.2.1 (X.2.2.2.2.2.1 _ hl rfl) (fun _ h => h) hd ((kk none).2 a b p e R s m args below meth c Q H locs lc X hR hD hS hL)
    · exact va_gets X.1 X.2.1 h hS X.2.2.2.1 (X.2.2.2.2.2.1 _ hl rfl) (fun _ h => h) hd ((kk (some 5)).2 a b p e R s m args below meth c Q H locs lc X hR hD hS hL)⟩
theorem V.callStr (hc : V g y2 d2 (hn A) (hz A) r2 A1 A 0 (ent (LR (some 3) :: args)) []) (hm : MK y2 n) (hrt : RT (mR y2) r2) (hcs : (mN y2).cls = "java/lang/String") (hl : Cond.methodLink (mN y).cls i (mN y2) ∈ lw_tbl) (hi : Cond.instanceMethod (mN y2) ∈ lw_tbl) (hs : Cond.selects (mN y2).cls (mN y2) (mN y2) ∈ lw_tbl) (hn1 : args.length = n) (hls : lsz (LR (some 3) :: args) ≤ mL y2) (hdd : d2 + 1 ≤ d) (hst : stk = args.reverse ++ LR (some 3) :: st) (h8 : lsz st ≤ 8) (hd : decode (mC y) pc = .ok (.invokevirtual i, 3))
    (kk : V g y d n0 z0 rr A' A1 (pc + 3) ls (r2.toList ++ st)) : V g y d n0 z0 rr A' A pc ls stk := by
  subst hst
  have k1 := kk.1
  have k2 := hc.1
  refine ⟨⟨Nat.le_trans k2.1 k1.1, Nat.le_trans k2.2 k1.2⟩, fun a b p e R s m argsC below meth c Q H locs lc X hR hD hS hL => ?_⟩
  obtain ⟨x1, x2, x3, x4, x5, x6, x7, x8, x9, x10, x11, x12⟩ := id X
  have hM := V.met hc hm hrt hls
  obtain ⟨cellB, g1, g2, g3⟩ := vk_recv (i := 0) x7.2.2.2.2.2.2.2.2.2.1 (by decide) hS
  have hml := hm.2.2.2.2.2
  refine run_k (mc := hn A1 - hn A) (ms := hz A1 - hz A) (rest := st.map (cv g)) (r2 := r2) (A1 := A1) (va_runV (b := adr g 3) (As := args.map (cv g)) (Ts := gtb) (C := (mN y2).cls) (n := n) (bytes := mC y2) (maxL := mL y2) (ret := mR y2) ⟨x1, x2, x3, x4, fun w hw => x6 w (List.mem_filter.mp hw).1 (List.mem_filter.mp hw).2⟩ hM
    ⟨⟨rfl, rfl, Nat.le_trans hdd x9, ?_, fun w hw a' U hW => ?_, List.mem_cons_self, x6 _ hm.2.1 rfl, x6 _ hm.2.2.1 rfl, hm.2.2.2.1, fun sig h => ?_, x6 _ hl rfl⟩, x6 _ hi rfl, x6 _ hs rfl⟩
    ⟨pre_blind, ⟨cellB, g1, g2, by rw [hcs]; exact g3⟩, fun U hU hW => ⟨rfl, by rw [hU]; exact x7.moved x8 hW hS.2.1, by rw [hU]; exact hD⟩⟩
    rfl (by rw [List.length_map]; exact hn1) hL.1 (by simp [cv]) (by show 2 * 0 + _ ≤ 8; rw [stw, Nat.zero_add]; exact h8) hd ⟨by omega, by omega⟩) hS (fun H1 locs1 hD1 hS1 => ?_)
  · show 8 + (mL y2 + 11) + 40 * d2 ≤ R.locals
    omega
  · rcases List.mem_cons.mp hw with rfl | hw
    · exact word_at hW (Or.inl rfl) (x6 _ hm.2.1 rfl)
    · exact word_at hW (good_of_word (List.mem_filter.mp hw).2) (x6 w (List.mem_filter.mp hw).1 (List.mem_filter.mp hw).2)
  · have h2 := hm.2.2.2.2.1
    rw [h] at h2
    exact (Option.some.inj h2).symm
  · have := kk.2 (by omega) (by omega) p e R s m argsC below meth c Q H1 locs1 lc X hR hD1 hS1 hL
    rw [show hn A1 - n0 = hn A - n0 + (hn A1 - hn A) by omega, show hz A1 - z0 = hz A - z0 + (hz A1 - hz A) by omega, List.map_append] at this
    cases r2 <;> exact this
end VST
theorem fls_9 : Cond.fieldLink RJ0 9 "java/lang/String" "value" "[B" ∈ lw_tbl := it6 (List.mem_of_getElem? (i := 141) rfl)
theorem fls_15 : Cond.fieldLink RJ0 15 "java/lang/String" "coder" "B" ∈ lw_tbl := it6 (List.mem_of_getElem? (i := 142) rfl)
theorem fls_38 : Cond.fieldLink RJ0 38 "java/lang/String" "COMPACT_STRINGS" "Z" ∈ lw_tbl := it2 (List.mem_of_getElem? (i := 122) rfl)
theorem fls_1053 : Cond.fieldLink RJ0 1053 "jdk/internal/util/Preconditions" "SIOOBE_FORMATTER" "Ljava/util/function/BiFunction;" ∈ lw_tbl := it2 (List.mem_of_getElem? (i := 138) rfl)
theorem w_coder {g : GG} {A : LH} : Ct g m_J0_coder_7d493 0 [LR (some 3)] A (some (LI 0)) A := by
  refine ⟨?_, by show narrow _ _ = _; decide⟩
  refine V.sK fls_38 dJ0_coder_7d493_0 ?_
  refine V.if_eq (tgt := 13) dJ0_coder_7d493_3 (by decide) (fun c => absurd c (by decide)) (fun c => ?_)
  refine V.aload_n dJ0_coder_7d493_6 rfl rfl ?_
  refine V.sC fls_15 dJ0_coder_7d493_7 ?_
  refine V.goto (tgt := 14) dJ0_coder_7d493_10 (by decide) ?_
  exact V.ireturn dJ0_coder_7d493_14
theorem w_isLatin1 {g : GG} {A : LH} : Ct g m_J0_isLatin1_aae02 0 [LR (some 3)] A (some (LI 1)) A := by
  refine ⟨?_, by show narrow _ _ = _; decide⟩
  refine V.sK fls_38 dJ0_isLatin1_aae02_0 ?_
  refine V.if_eq (tgt := 17) dJ0_isLatin1_aae02_3 (by decide) (fun c => absurd c (by decide)) (fun c => ?_)
  refine V.aload_n dJ0_isLatin1_aae02_6 rfl rfl ?_
  refine V.sC fls_15 dJ0_isLatin1_aae02_7 ?_
  refine V.if_ne (tgt := 17) dJ0_isLatin1_aae02_10 (by decide) (fun c => absurd rfl c) (fun c => ?_)
  refine V.iconst dJ0_isLatin1_aae02_13 ki_1 ?_
  refine V.goto (tgt := 18) dJ0_isLatin1_aae02_14 (by decide) ?_
  exact V.ireturn dJ0_isLatin1_aae02_18
theorem w_strlen {g : GG} {A : LH} : Ct g m_J0_length_8abf5 1 [LR (some 3)] A (some (LI 120)) A := by
  refine ⟨?_, rfl⟩
  refine V.aload_n dJ0_length_8abf5_0 rfl rfl ?_
  refine V.sV fls_9 dJ0_length_8abf5_1 ?_
  refine V.sL dJ0_length_8abf5_4 ?_
  refine V.aload_n dJ0_length_8abf5_5 rfl rfl ?_
  refine V.callStr (args := []) (st := [LI 120]) (r2 := some (LI 0)) w_coder.1 mk_J0_coder_7d493 (w_coder (g := g) (A := A)).2 rfl ml_RJ0_335 im_J0_coder_7d493 se_J0_coder_7d493 rfl (Nat.le_of_ble_eq_true rfl) (by decide) rfl (Nat.le_of_ble_eq_true rfl) dJ0_length_8abf5_6 ?_
  refine V.ishr (a := 120) (b := 0) dJ0_length_8abf5_9 ?_
  rw [show (120 : Int32) >>> ((0 : Int32) &&& 31) = 120 by decide]
  exact V.ireturn dJ0_length_8abf5_10
theorem w_pre {g : GG} {A : LH} {i n : Int32} {fo : Option Nat} (h1 : ¬ i < 0) (h2 : i < n) : Ct g m_J3_checkIndex_8e157 0 [LI i, LI n, LR fo] A (some (LI i)) A := by
  refine ⟨?_, rfl⟩
  refine V.iload_n dJ3_checkIndex_8e157_0 rfl rfl ?_
  refine V.if_lt (tgt := 9) dJ3_checkIndex_8e157_1 (by decide) (fun c => absurd c h1) (fun c => ?_)
  refine V.iload_n dJ3_checkIndex_8e157_4 rfl rfl ?_
  refine V.iload_n dJ3_checkIndex_8e157_5 rfl rfl ?_
  refine V.icmp_lt (tgt := 16) dJ3_checkIndex_8e157_6 (by decide) (fun c => ?_) (fun c => absurd h2 c)
  refine V.iload_n dJ3_checkIndex_8e157_16 rfl rfl ?_
  exact V.ireturn dJ3_checkIndex_8e157_17
theorem w_chk {g : GG} {A : LH} {i n : Int32} (h1 : ¬ i < 0) (h2 : i < n) : Ct g m_J0_checkIndex_df160 1 [LI i, LI n] A none A := by
  refine ⟨?_, trivial⟩
  refine V.iload_n dJ0_checkIndex_df160_0 rfl rfl ?_
  refine V.iload_n dJ0_checkIndex_df160_1 rfl rfl ?_
  refine V.sF fls_1053 dJ0_checkIndex_df160_2 fun fo => ?_
  refine V.callSi (args := [LI i, LI n, LR fo]) (st := []) (w_pre h1 h2).1 mk_J3_checkIndex_8e157 (w_pre (g := g) (A := A) (fo := fo) h1 h2).2 ml_RJ0_1059 sm_J3_checkIndex_8e157 rfl (Nat.le_of_ble_eq_true rfl) (by decide) rfl (Nat.le_of_ble_eq_true rfl) dJ0_checkIndex_df160_5 ?_
  refine V.pop dJ0_checkIndex_df160_8 rfl ?_
  exact V.return_ dJ0_checkIndex_df160_9
theorem s_chk_lt {i : Int32} (h : vp_in i 120) : ¬ i < 0 ∧ i < 120 := by
  obtain ⟨j, hj, rfl⟩ := vp_in_of (n := 120) h (by decide)
  exact ⟨nI_pos (by omega), nI_lt hj (by decide)⟩
theorem w_lat {g : GG} {A : LH} {i : Int32} (h : vp_in i 120) : Ct g m_J1_charAt_3b067 2 [LR (some 4), LI i] A (some (LI (s_ch i))) A := by
  obtain ⟨h1, h2⟩ := s_chk_lt h
  refine ⟨?_, by show narrow _ (.int ((_ : Int32).toUInt32 % 65536).toInt32) = _; exact pk_nc _⟩
  refine V.iload_n dJ1_charAt_3b067_0 rfl rfl ?_
  refine V.aload_n dJ1_charAt_3b067_1 rfl rfl ?_
  refine V.sL dJ1_charAt_3b067_2 ?_
  refine V.callSv (args := [LI i, LI 120]) (st := []) (w_chk h1 h2).1 mk_J0_checkIndex_df160 (w_chk (g := g) (A := A) h1 h2).2 ml_RJ1_9 sm_J0_checkIndex_df160 rfl (Nat.le_of_ble_eq_true rfl) (by decide) rfl (Nat.le_of_ble_eq_true rfl) dJ1_charAt_3b067_3 ?_
  refine V.aload_n dJ1_charAt_3b067_6 rfl rfl ?_
  refine V.iload_n dJ1_charAt_3b067_7 rfl rfl ?_
  refine V.sB h dJ1_charAt_3b067_8 ?_
  refine V.sipush dJ1_charAt_3b067_9 ks_255 ?_
  refine V.iand dJ1_charAt_3b067_12 ?_
  refine V.i2c dJ1_charAt_3b067_13 ?_
  exact V.ireturn dJ1_charAt_3b067_14
theorem w_charAt {g : GG} {A : LH} {i : Int32} (h : vp_in i 120) : Ct g m_J0_charAt_5068e 3 [LR (some 3), LI i] A (some (LI (s_ch i))) A := by
  refine ⟨?_, by show narrow _ (.int ((_ : Int32).toUInt32 % 65536).toInt32) = _; exact pk_nc _⟩
  refine V.aload_n dJ0_charAt_5068e_0 rfl rfl ?_
  refine V.callStr (args := []) (st := []) (r2 := some (LI 1)) w_isLatin1.1 mk_J0_isLatin1_aae02 (w_isLatin1 (g := g) (A := A)).2 rfl ml_RJ0_492 im_J0_isLatin1_aae02 se_J0_isLatin1_aae02 rfl (Nat.le_of_ble_eq_true rfl) (by decide) rfl (Nat.le_of_ble_eq_true rfl) dJ0_charAt_5068e_1 ?_
  refine V.if_eq (tgt := 16) dJ0_charAt_5068e_4 (by decide) (fun c => absurd c (by decide)) (fun c => ?_)
  refine V.aload_n dJ0_charAt_5068e_7 rfl rfl ?_
  refine V.sV fls_9 dJ0_charAt_5068e_8 ?_
  refine V.iload_n dJ0_charAt_5068e_11 rfl rfl ?_
  refine V.callSi (args := [LR (some 4), LI i]) (st := []) (w_lat h).1 mk_J1_charAt_3b067 (w_lat (g := g) (A := A) h).2 ml_RJ0_495 sm_J1_charAt_3b067 rfl (Nat.le_of_ble_eq_true rfl) (by decide) rfl (Nat.le_of_ble_eq_true rfl) dJ0_charAt_5068e_12 ?_
  exact V.ireturn dJ0_charAt_5068e_15
theorem slen_sp {r : Option Nat} {v : Int32} (h : s_len r = some v) : r = some 3 ∧ 120 = v := by
  unfold s_len at h
  obtain ⟨h1, h2⟩ := ifN h
  exact ⟨h1, Option.some.inj h2⟩
theorem sat_sp {r : Option Nat} {j v : Int32} (h : s_at r j = some v) : (r = some 3 ∧ vp_in j 120) ∧ s_ch j = v := by
  unfold s_at at h
  obtain ⟨h1, h2⟩ := ifN h
  exact ⟨h1, Option.some.inj h2⟩
section VSU
variable {g : GG} {y : MM} {d n0 z0 i : Nat} {rr : Option LV} {A' A : LH} {pc : Nat} {ls : List (Option LV)} {st : List LV}
theorem V.s_len {r : Option Nat} {v : Int32} (h : s_len r = some v) (hl : Cond.methodLink (mN y).cls i yJ0_length_8abf5 ∈ lw_tbl) (hdd : 4 ≤ d) (h8 : lsz st ≤ 8) (hd : decode (mC y) pc = .ok (.invokevirtual i, 3)) (kk : V g y d n0 z0 rr A' A (pc + 3) ls (LI v :: st)) : V g y d n0 z0 rr A' A pc ls (LR r :: st) := by
  obtain ⟨rfl, rfl⟩ := slen_sp h
  exact V.callStr (args := []) (st := st) (r2 := some (LI 120)) w_strlen.1 mk_J0_length_8abf5 (w_strlen (g := g) (A := A)).2 rfl hl im_J0_length_8abf5 se_J0_length_8abf5 rfl (Nat.le_of_ble_eq_true rfl) (by omega) rfl h8 hd kk
theorem V.s_at {r : Option Nat} {j v : Int32} (h : s_at r j = some v) (hl : Cond.methodLink (mN y).cls i yJ0_charAt_5068e ∈ lw_tbl) (hdd : 4 ≤ d) (h8 : lsz st ≤ 8) (hd : decode (mC y) pc = .ok (.invokevirtual i, 3)) (kk : V g y d n0 z0 rr A' A (pc + 3) ls (LI v :: st)) : V g y d n0 z0 rr A' A pc ls (LI j :: LR r :: st) := by
  obtain ⟨⟨rfl, hj⟩, rfl⟩ := sat_sp h
  exact V.callStr (args := [LI j]) (st := st) (r2 := some (LI (s_ch j))) (w_charAt hj).1 mk_J0_charAt_5068e (w_charAt (g := g) (A := A) hj).2 rfl hl im_J0_charAt_5068e se_J0_charAt_5068e rfl (Nat.le_of_ble_eq_true rfl) (by omega) rfl h8 hd kk
end VSU
